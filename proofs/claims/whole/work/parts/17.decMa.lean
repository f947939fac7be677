theorem dX11_init_0 : decode cX11_init 0 = .ok (.aload_n 0, 1) := by decide +kernel
theorem dX11_init_1 : decode cX11_init 1 = .ok (.invokespecial 1, 3) := by decide +kernel
theorem dX11_init_4 : decode cX11_init 4 = .ok (.aload_n 0, 1) := by decide +kernel
theorem dX11_init_5 : decode cX11_init 5 = .ok (.bipush 15, 2) := by decide +kernel
theorem dX11_init_7 : decode cX11_init 7 = .ok (.newarray .int, 2) := by decide +kernel
theorem dX11_init_9 : decode cX11_init 9 = .ok (.putfield 7, 3) := by decide +kernel
theorem dX11_init_12 : decode cX11_init 12 = .ok (.aload_n 0, 1) := by decide +kernel
theorem dX11_init_13 : decode cX11_init 13 = .ok (.bipush 7, 2) := by decide +kernel
theorem dX11_init_15 : decode cX11_init 15 = .ok (.newarray .int, 2) := by decide +kernel
theorem dX11_init_17 : decode cX11_init 17 = .ok (.putfield 13, 3) := by decide +kernel
theorem dX11_init_20 : decode cX11_init 20 = .ok (.aload_n 0, 1) := by decide +kernel
theorem dX11_init_21 : decode cX11_init 21 = .ok (.iconst 2, 1) := by decide +kernel
theorem dX11_init_22 : decode cX11_init 22 = .ok (.newarray .int, 2) := by decide +kernel
theorem dX11_init_24 : decode cX11_init 24 = .ok (.putfield 16, 3) := by decide +kernel
theorem dX11_init_27 : decode cX11_init 27 = .ok (.aload_n 0, 1) := by decide +kernel
theorem dX11_init_28 : decode cX11_init 28 = .ok (.iconst 2, 1) := by decide +kernel
theorem dX11_init_29 : decode cX11_init 29 = .ok (.newarray .int, 2) := by decide +kernel
theorem dX11_init_31 : decode cX11_init 31 = .ok (.putfield 19, 3) := by decide +kernel
theorem dX11_init_34 : decode cX11_init 34 = .ok (.aload_n 0, 1) := by decide +kernel
theorem dX11_init_35 : decode cX11_init 35 = .ok (.bipush 16, 2) := by decide +kernel
theorem dX11_init_37 : decode cX11_init 37 = .ok (.newarray .int, 2) := by decide +kernel
theorem dX11_init_39 : decode cX11_init 39 = .ok (.putfield 22, 3) := by decide +kernel
theorem dX11_init_42 : decode cX11_init 42 = .ok (.aload_n 0, 1) := by decide +kernel
theorem dX11_init_43 : decode cX11_init 43 = .ok (.sipush 16384, 3) := by decide +kernel
theorem dX11_init_46 : decode cX11_init 46 = .ok (.newarray .int, 2) := by decide +kernel
theorem dX11_init_48 : decode cX11_init 48 = .ok (.putfield 25, 3) := by decide +kernel
theorem dX11_init_51 : decode cX11_init 51 = .ok (.aload_n 0, 1) := by decide +kernel
theorem dX11_init_52 : decode cX11_init 52 = .ok (.sipush 16384, 3) := by decide +kernel
theorem dX11_init_55 : decode cX11_init 55 = .ok (.newarray .int, 2) := by decide +kernel
theorem dX11_init_57 : decode cX11_init 57 = .ok (.putfield 28, 3) := by decide +kernel
theorem dX11_init_60 : decode cX11_init 60 = .ok (.aload_n 0, 1) := by decide +kernel
theorem dX11_init_61 : decode cX11_init 61 = .ok (.bipush 16, 2) := by decide +kernel
theorem dX11_init_63 : decode cX11_init 63 = .ok (.newarray .int, 2) := by decide +kernel
theorem dX11_init_65 : decode cX11_init 65 = .ok (.putfield 31, 3) := by decide +kernel
theorem dX11_init_68 : decode cX11_init 68 = .ok (.aload_n 0, 1) := by decide +kernel
theorem dX11_init_69 : decode cX11_init 69 = .ok (.bipush 16, 2) := by decide +kernel
theorem dX11_init_71 : decode cX11_init 71 = .ok (.newarray .int, 2) := by decide +kernel
theorem dX11_init_73 : decode cX11_init 73 = .ok (.putfield 34, 3) := by decide +kernel
theorem dX11_init_76 : decode cX11_init 76 = .ok (.aload_n 0, 1) := by decide +kernel
theorem dX11_init_77 : decode cX11_init 77 = .ok (.bipush 16, 2) := by decide +kernel
theorem dX11_init_79 : decode cX11_init 79 = .ok (.newarray .int, 2) := by decide +kernel
theorem dX11_init_81 : decode cX11_init 81 = .ok (.putfield 37, 3) := by decide +kernel
theorem dX11_init_84 : decode cX11_init 84 = .ok (.aload_n 0, 1) := by decide +kernel
theorem dX11_init_85 : decode cX11_init 85 = .ok (.iconst 3, 1) := by decide +kernel
theorem dX11_init_86 : decode cX11_init 86 = .ok (.newarray .int, 2) := by decide +kernel
theorem dX11_init_88 : decode cX11_init 88 = .ok (.putfield 40, 3) := by decide +kernel
theorem dX11_init_91 : decode cX11_init 91 = .ok (.aload_n 0, 1) := by decide +kernel
theorem dX11_init_92 : decode cX11_init 92 = .ok (.sipush 2048, 3) := by decide +kernel
theorem dX11_init_95 : decode cX11_init 95 = .ok (.newarray .int, 2) := by decide +kernel
theorem dX11_init_97 : decode cX11_init 97 = .ok (.putfield 43, 3) := by decide +kernel
theorem dX11_init_100 : decode cX11_init 100 = .ok (.aload_n 0, 1) := by decide +kernel
theorem dX11_init_101 : decode cX11_init 101 = .ok (.iconst 2, 1) := by decide +kernel
theorem dX11_init_102 : decode cX11_init 102 = .ok (.newarray .int, 2) := by decide +kernel
theorem dX11_init_104 : decode cX11_init 104 = .ok (.putfield 46, 3) := by decide +kernel
theorem dX11_init_107 : decode cX11_init 107 = .ok (.aload_n 0, 1) := by decide +kernel
theorem dX11_init_108 : decode cX11_init 108 = .ok (.iconst 2, 1) := by decide +kernel
theorem dX11_init_109 : decode cX11_init 109 = .ok (.newarray .int, 2) := by decide +kernel
theorem dX11_init_111 : decode cX11_init 111 = .ok (.putfield 49, 3) := by decide +kernel
theorem dX11_init_114 : decode cX11_init 114 = .ok (.aload_n 0, 1) := by decide +kernel
theorem dX11_init_115 : decode cX11_init 115 = .ok (.iconst 2, 1) := by decide +kernel
theorem dX11_init_116 : decode cX11_init 116 = .ok (.newarray .int, 2) := by decide +kernel
theorem dX11_init_118 : decode cX11_init 118 = .ok (.putfield 52, 3) := by decide +kernel
theorem dX11_init_121 : decode cX11_init 121 = .ok (.aload_n 0, 1) := by decide +kernel
theorem dX11_init_122 : decode cX11_init 122 = .ok (.iconst 2, 1) := by decide +kernel
theorem dX11_init_123 : decode cX11_init 123 = .ok (.newarray .int, 2) := by decide +kernel
theorem dX11_init_125 : decode cX11_init 125 = .ok (.putfield 55, 3) := by decide +kernel
theorem dX11_init_128 : decode cX11_init 128 = .ok (.aload_n 0, 1) := by decide +kernel
theorem dX11_init_129 : decode cX11_init 129 = .ok (.sipush 4000, 3) := by decide +kernel
theorem dX11_init_132 : decode cX11_init 132 = .ok (.newarray .byte, 2) := by decide +kernel
theorem dX11_init_134 : decode cX11_init 134 = .ok (.putfield 58, 3) := by decide +kernel
theorem dX11_init_137 : decode cX11_init 137 = .ok (.aload_n 0, 1) := by decide +kernel
theorem dX11_init_138 : decode cX11_init 138 = .ok (.iconst (-1), 1) := by decide +kernel
theorem dX11_init_139 : decode cX11_init 139 = .ok (.putfield 62, 3) := by decide +kernel
theorem dX11_init_142 : decode cX11_init 142 = .ok (.aload_n 0, 1) := by decide +kernel
theorem dX11_init_143 : decode cX11_init 143 = .ok (.bipush 7, 2) := by decide +kernel
theorem dX11_init_145 : decode cX11_init 145 = .ok (.newarray .long, 2) := by decide +kernel
theorem dX11_init_147 : decode cX11_init 147 = .ok (.putfield 66, 3) := by decide +kernel
theorem dX11_init_150 : decode cX11_init 150 = .ok (.aload_n 0, 1) := by decide +kernel
theorem dX11_init_151 : decode cX11_init 151 = .ok (.invokevirtual 70, 3) := by decide +kernel
theorem dX11_init_154 : decode cX11_init 154 = .ok (.return_, 1) := by decide +kernel
theorem dX11_thrown_0 : decode cX11_thrown 0 = .ok (.aload_n 0, 1) := by decide +kernel
theorem dX11_thrown_1 : decode cX11_thrown 1 = .ok (.getfield 73, 3) := by decide +kernel
theorem dX11_thrown_4 : decode cX11_thrown 4 = .ok (.ireturn, 1) := by decide +kernel
theorem dX11_fail_0 : decode cX11_fail 0 = .ok (.aload_n 0, 1) := by decide +kernel
theorem dX11_fail_1 : decode cX11_fail 1 = .ok (.iconst 1, 1) := by decide +kernel
theorem dX11_fail_2 : decode cX11_fail 2 = .ok (.putfield 73, 3) := by decide +kernel
theorem dX11_fail_5 : decode cX11_fail 5 = .ok (.iconst 0, 1) := by decide +kernel
theorem dX11_fail_6 : decode cX11_fail 6 = .ok (.ireturn, 1) := by decide +kernel
theorem dX11_within_0 : decode cX11_within 0 = .ok (.iload_n 0, 1) := by decide +kernel
theorem dX11_within_1 : decode cX11_within 1 = .ok (.iload_n 1, 1) := by decide +kernel
theorem dX11_within_2 : decode cX11_within 2 = .ok (.if_icmp .lt 12, 3) := by decide +kernel
theorem dX11_within_5 : decode cX11_within 5 = .ok (.iload_n 0, 1) := by decide +kernel
theorem dX11_within_6 : decode cX11_within 6 = .ok (.iload_n 2, 1) := by decide +kernel
theorem dX11_within_7 : decode cX11_within 7 = .ok (.if_icmp .gt 7, 3) := by decide +kernel
theorem dX11_within_10 : decode cX11_within 10 = .ok (.iconst 1, 1) := by decide +kernel
theorem dX11_within_11 : decode cX11_within 11 = .ok (.goto 4, 3) := by decide +kernel
theorem dX11_within_14 : decode cX11_within 14 = .ok (.iconst 0, 1) := by decide +kernel
theorem dX11_within_15 : decode cX11_within 15 = .ok (.ireturn, 1) := by decide +kernel
theorem dX11_reset_0 : decode cX11_reset 0 = .ok (.aload_n 0, 1) := by decide +kernel
theorem dX11_reset_1 : decode cX11_reset 1 = .ok (.iconst 0, 1) := by decide +kernel
theorem dX11_reset_2 : decode cX11_reset 2 = .ok (.putfield 73, 3) := by decide +kernel
theorem dX11_reset_5 : decode cX11_reset 5 = .ok (.iconst 0, 1) := by decide +kernel
theorem dX11_reset_6 : decode cX11_reset 6 = .ok (.istore_n 1, 1) := by decide +kernel
theorem dX11_reset_7 : decode cX11_reset 7 = .ok (.iload_n 1, 1) := by decide +kernel
theorem dX11_reset_8 : decode cX11_reset 8 = .ok (.bipush 15, 2) := by decide +kernel
theorem dX11_reset_10 : decode cX11_reset 10 = .ok (.if_icmp .ge 16, 3) := by decide +kernel
theorem dX11_reset_13 : decode cX11_reset 13 = .ok (.aload_n 0, 1) := by decide +kernel
theorem dX11_reset_14 : decode cX11_reset 14 = .ok (.getfield 7, 3) := by decide +kernel
theorem dX11_reset_17 : decode cX11_reset 17 = .ok (.iload_n 1, 1) := by decide +kernel
theorem dX11_reset_18 : decode cX11_reset 18 = .ok (.iconst 0, 1) := by decide +kernel
theorem dX11_reset_19 : decode cX11_reset 19 = .ok (.iastore, 1) := by decide +kernel
theorem dX11_reset_20 : decode cX11_reset 20 = .ok (.iinc 1 1, 3) := by decide +kernel
theorem dX11_reset_23 : decode cX11_reset 23 = .ok (.goto (-16), 3) := by decide +kernel
theorem dX11_reset_26 : decode cX11_reset 26 = .ok (.iconst 0, 1) := by decide +kernel
theorem dX11_reset_27 : decode cX11_reset 27 = .ok (.istore_n 1, 1) := by decide +kernel
theorem dX11_reset_28 : decode cX11_reset 28 = .ok (.iload_n 1, 1) := by decide +kernel
theorem dX11_reset_29 : decode cX11_reset 29 = .ok (.bipush 7, 2) := by decide +kernel
theorem dX11_reset_31 : decode cX11_reset 31 = .ok (.if_icmp .ge 16, 3) := by decide +kernel
theorem dX11_reset_34 : decode cX11_reset 34 = .ok (.aload_n 0, 1) := by decide +kernel
theorem dX11_reset_35 : decode cX11_reset 35 = .ok (.getfield 13, 3) := by decide +kernel
theorem dX11_reset_38 : decode cX11_reset 38 = .ok (.iload_n 1, 1) := by decide +kernel
theorem dX11_reset_39 : decode cX11_reset 39 = .ok (.iconst 0, 1) := by decide +kernel
theorem dX11_reset_40 : decode cX11_reset 40 = .ok (.iastore, 1) := by decide +kernel
theorem dX11_reset_41 : decode cX11_reset 41 = .ok (.iinc 1 1, 3) := by decide +kernel
theorem dX11_reset_44 : decode cX11_reset 44 = .ok (.goto (-16), 3) := by decide +kernel
theorem dX11_reset_47 : decode cX11_reset 47 = .ok (.iconst 0, 1) := by decide +kernel
theorem dX11_reset_48 : decode cX11_reset 48 = .ok (.istore_n 1, 1) := by decide +kernel
theorem dX11_reset_49 : decode cX11_reset 49 = .ok (.iload_n 1, 1) := by decide +kernel
theorem dX11_reset_50 : decode cX11_reset 50 = .ok (.iconst 2, 1) := by decide +kernel
theorem dX11_reset_51 : decode cX11_reset 51 = .ok (.if_icmp .ge 51, 3) := by decide +kernel
theorem dX11_reset_54 : decode cX11_reset 54 = .ok (.aload_n 0, 1) := by decide +kernel
theorem dX11_reset_55 : decode cX11_reset 55 = .ok (.getfield 16, 3) := by decide +kernel
theorem dX11_reset_58 : decode cX11_reset 58 = .ok (.iload_n 1, 1) := by decide +kernel
theorem dX11_reset_59 : decode cX11_reset 59 = .ok (.iconst 0, 1) := by decide +kernel
theorem dX11_reset_60 : decode cX11_reset 60 = .ok (.iastore, 1) := by decide +kernel
theorem dX11_reset_61 : decode cX11_reset 61 = .ok (.aload_n 0, 1) := by decide +kernel
theorem dX11_reset_62 : decode cX11_reset 62 = .ok (.getfield 19, 3) := by decide +kernel
theorem dX11_reset_65 : decode cX11_reset 65 = .ok (.iload_n 1, 1) := by decide +kernel
theorem dX11_reset_66 : decode cX11_reset 66 = .ok (.iconst 0, 1) := by decide +kernel
theorem dX11_reset_67 : decode cX11_reset 67 = .ok (.iastore, 1) := by decide +kernel
theorem dX11_reset_68 : decode cX11_reset 68 = .ok (.aload_n 0, 1) := by decide +kernel
theorem dX11_reset_69 : decode cX11_reset 69 = .ok (.getfield 46, 3) := by decide +kernel
theorem dX11_reset_72 : decode cX11_reset 72 = .ok (.iload_n 1, 1) := by decide +kernel
theorem dX11_reset_73 : decode cX11_reset 73 = .ok (.iconst 0, 1) := by decide +kernel
theorem dX11_reset_74 : decode cX11_reset 74 = .ok (.iastore, 1) := by decide +kernel
theorem dX11_reset_75 : decode cX11_reset 75 = .ok (.aload_n 0, 1) := by decide +kernel
theorem dX11_reset_76 : decode cX11_reset 76 = .ok (.getfield 49, 3) := by decide +kernel
theorem dX11_reset_79 : decode cX11_reset 79 = .ok (.iload_n 1, 1) := by decide +kernel
theorem dX11_reset_80 : decode cX11_reset 80 = .ok (.iconst 0, 1) := by decide +kernel
theorem dX11_reset_81 : decode cX11_reset 81 = .ok (.iastore, 1) := by decide +kernel
theorem dX11_reset_82 : decode cX11_reset 82 = .ok (.aload_n 0, 1) := by decide +kernel
theorem dX11_reset_83 : decode cX11_reset 83 = .ok (.getfield 52, 3) := by decide +kernel
theorem dX11_reset_86 : decode cX11_reset 86 = .ok (.iload_n 1, 1) := by decide +kernel
theorem dX11_reset_87 : decode cX11_reset 87 = .ok (.iconst 0, 1) := by decide +kernel
theorem dX11_reset_88 : decode cX11_reset 88 = .ok (.iastore, 1) := by decide +kernel
theorem dX11_reset_89 : decode cX11_reset 89 = .ok (.aload_n 0, 1) := by decide +kernel
theorem dX11_reset_90 : decode cX11_reset 90 = .ok (.getfield 55, 3) := by decide +kernel
theorem dX11_reset_93 : decode cX11_reset 93 = .ok (.iload_n 1, 1) := by decide +kernel
theorem dX11_reset_94 : decode cX11_reset 94 = .ok (.iconst 0, 1) := by decide +kernel
theorem dX11_reset_95 : decode cX11_reset 95 = .ok (.iastore, 1) := by decide +kernel
theorem dX11_reset_96 : decode cX11_reset 96 = .ok (.iinc 1 1, 3) := by decide +kernel
theorem dX11_reset_99 : decode cX11_reset 99 = .ok (.goto (-50), 3) := by decide +kernel
theorem dX11_reset_102 : decode cX11_reset 102 = .ok (.aload_n 0, 1) := by decide +kernel
theorem dX11_reset_103 : decode cX11_reset 103 = .ok (.ldc 76, 2) := by decide +kernel
theorem dX11_reset_105 : decode cX11_reset 105 = .ok (.putfield 77, 3) := by decide +kernel
theorem dX11_reset_108 : decode cX11_reset 108 = .ok (.iconst 0, 1) := by decide +kernel
theorem dX11_reset_109 : decode cX11_reset 109 = .ok (.istore_n 1, 1) := by decide +kernel
theorem dX11_reset_110 : decode cX11_reset 110 = .ok (.iload_n 1, 1) := by decide +kernel
theorem dX11_reset_111 : decode cX11_reset 111 = .ok (.bipush 16, 2) := by decide +kernel
theorem dX11_reset_113 : decode cX11_reset 113 = .ok (.if_icmp .ge 38, 3) := by decide +kernel
theorem dX11_reset_116 : decode cX11_reset 116 = .ok (.aload_n 0, 1) := by decide +kernel
theorem dX11_reset_117 : decode cX11_reset 117 = .ok (.getfield 31, 3) := by decide +kernel
theorem dX11_reset_120 : decode cX11_reset 120 = .ok (.iload_n 1, 1) := by decide +kernel
theorem dX11_reset_121 : decode cX11_reset 121 = .ok (.iload_n 1, 1) := by decide +kernel
theorem dX11_reset_122 : decode cX11_reset 122 = .ok (.ifCond .ne 7, 3) := by decide +kernel
theorem dX11_reset_125 : decode cX11_reset 125 = .ok (.iconst 0, 1) := by decide +kernel
theorem dX11_reset_126 : decode cX11_reset 126 = .ok (.goto 4, 3) := by decide +kernel
theorem dX11_reset_129 : decode cX11_reset 129 = .ok (.iconst (-1), 1) := by decide +kernel
theorem dX11_reset_130 : decode cX11_reset 130 = .ok (.iastore, 1) := by decide +kernel
theorem dX11_reset_131 : decode cX11_reset 131 = .ok (.aload_n 0, 1) := by decide +kernel
theorem dX11_reset_132 : decode cX11_reset 132 = .ok (.getfield 34, 3) := by decide +kernel
theorem dX11_reset_135 : decode cX11_reset 135 = .ok (.iload_n 1, 1) := by decide +kernel
theorem dX11_reset_136 : decode cX11_reset 136 = .ok (.iconst 0, 1) := by decide +kernel
theorem dX11_reset_137 : decode cX11_reset 137 = .ok (.iastore, 1) := by decide +kernel
theorem dX11_reset_138 : decode cX11_reset 138 = .ok (.aload_n 0, 1) := by decide +kernel
theorem dX11_reset_139 : decode cX11_reset 139 = .ok (.getfield 37, 3) := by decide +kernel
theorem dX11_reset_142 : decode cX11_reset 142 = .ok (.iload_n 1, 1) := by decide +kernel
theorem dX11_reset_143 : decode cX11_reset 143 = .ok (.iconst 0, 1) := by decide +kernel
theorem dX11_reset_144 : decode cX11_reset 144 = .ok (.iastore, 1) := by decide +kernel
theorem dX11_reset_145 : decode cX11_reset 145 = .ok (.iinc 1 1, 3) := by decide +kernel
theorem dX11_reset_148 : decode cX11_reset 148 = .ok (.goto (-38), 3) := by decide +kernel
theorem dX11_reset_151 : decode cX11_reset 151 = .ok (.aload_n 0, 1) := by decide +kernel
theorem dX11_reset_152 : decode cX11_reset 152 = .ok (.iconst 0, 1) := by decide +kernel
theorem dX11_reset_153 : decode cX11_reset 153 = .ok (.putfield 80, 3) := by decide +kernel
theorem dX11_reset_156 : decode cX11_reset 156 = .ok (.aload_n 0, 1) := by decide +kernel
theorem dX11_reset_157 : decode cX11_reset 157 = .ok (.iconst 0, 1) := by decide +kernel
theorem dX11_reset_158 : decode cX11_reset 158 = .ok (.putfield 83, 3) := by decide +kernel
theorem dX11_reset_161 : decode cX11_reset 161 = .ok (.aload_n 0, 1) := by decide +kernel
theorem dX11_reset_162 : decode cX11_reset 162 = .ok (.iconst 0, 1) := by decide +kernel
theorem dX11_reset_163 : decode cX11_reset 163 = .ok (.putfield 86, 3) := by decide +kernel
theorem dX11_reset_166 : decode cX11_reset 166 = .ok (.aload_n 0, 1) := by decide +kernel
theorem dX11_reset_167 : decode cX11_reset 167 = .ok (.iconst 0, 1) := by decide +kernel
theorem dX11_reset_168 : decode cX11_reset 168 = .ok (.putfield 89, 3) := by decide +kernel
theorem dX11_reset_171 : decode cX11_reset 171 = .ok (.iconst 0, 1) := by decide +kernel
theorem dX11_reset_172 : decode cX11_reset 172 = .ok (.istore_n 1, 1) := by decide +kernel
theorem dX11_reset_173 : decode cX11_reset 173 = .ok (.iload_n 1, 1) := by decide +kernel
theorem dX11_reset_174 : decode cX11_reset 174 = .ok (.iconst 3, 1) := by decide +kernel
theorem dX11_reset_175 : decode cX11_reset 175 = .ok (.if_icmp .ge 16, 3) := by decide +kernel
theorem dX11_reset_178 : decode cX11_reset 178 = .ok (.aload_n 0, 1) := by decide +kernel
theorem dX11_reset_179 : decode cX11_reset 179 = .ok (.getfield 40, 3) := by decide +kernel
theorem dX11_reset_182 : decode cX11_reset 182 = .ok (.iload_n 1, 1) := by decide +kernel
theorem dX11_reset_183 : decode cX11_reset 183 = .ok (.iconst 0, 1) := by decide +kernel
theorem dX11_reset_184 : decode cX11_reset 184 = .ok (.iastore, 1) := by decide +kernel
theorem dX11_reset_185 : decode cX11_reset 185 = .ok (.iinc 1 1, 3) := by decide +kernel
theorem dX11_reset_188 : decode cX11_reset 188 = .ok (.goto (-15), 3) := by decide +kernel
theorem dX11_reset_191 : decode cX11_reset 191 = .ok (.aload_n 0, 1) := by decide +kernel
theorem dX11_reset_192 : decode cX11_reset 192 = .ok (.lconst 0, 1) := by decide +kernel
theorem dX11_reset_193 : decode cX11_reset 193 = .ok (.putfield 92, 3) := by decide +kernel
theorem dX11_reset_196 : decode cX11_reset 196 = .ok (.aload_n 0, 1) := by decide +kernel
theorem dX11_reset_197 : decode cX11_reset 197 = .ok (.iconst 0, 1) := by decide +kernel
theorem dX11_reset_198 : decode cX11_reset 198 = .ok (.putfield 96, 3) := by decide +kernel
theorem dX11_reset_201 : decode cX11_reset 201 = .ok (.aload_n 0, 1) := by decide +kernel
theorem dX11_reset_202 : decode cX11_reset 202 = .ok (.iconst 0, 1) := by decide +kernel
theorem dX11_reset_203 : decode cX11_reset 203 = .ok (.putfield 99, 3) := by decide +kernel
theorem dX11_reset_206 : decode cX11_reset 206 = .ok (.aload_n 0, 1) := by decide +kernel
theorem dX11_reset_207 : decode cX11_reset 207 = .ok (.iconst 0, 1) := by decide +kernel
theorem dX11_reset_208 : decode cX11_reset 208 = .ok (.putfield 102, 3) := by decide +kernel
theorem dX11_reset_211 : decode cX11_reset 211 = .ok (.aload_n 0, 1) := by decide +kernel
theorem dX11_reset_212 : decode cX11_reset 212 = .ok (.iconst 0, 1) := by decide +kernel
theorem dX11_reset_213 : decode cX11_reset 213 = .ok (.putfield 105, 3) := by decide +kernel
theorem dX11_reset_216 : decode cX11_reset 216 = .ok (.aload_n 0, 1) := by decide +kernel
theorem dX11_reset_217 : decode cX11_reset 217 = .ok (.iconst 0, 1) := by decide +kernel
theorem dX11_reset_218 : decode cX11_reset 218 = .ok (.putfield 108, 3) := by decide +kernel
theorem dX11_reset_221 : decode cX11_reset 221 = .ok (.aload_n 0, 1) := by decide +kernel
theorem dX11_reset_222 : decode cX11_reset 222 = .ok (.iconst 0, 1) := by decide +kernel
theorem dX11_reset_223 : decode cX11_reset 223 = .ok (.putfield 111, 3) := by decide +kernel
theorem dX11_reset_226 : decode cX11_reset 226 = .ok (.aload_n 0, 1) := by decide +kernel
theorem dX11_reset_227 : decode cX11_reset 227 = .ok (.iconst 0, 1) := by decide +kernel
theorem dX11_reset_228 : decode cX11_reset 228 = .ok (.putfield 115, 3) := by decide +kernel
theorem dX11_reset_231 : decode cX11_reset 231 = .ok (.aload_n 0, 1) := by decide +kernel
theorem dX11_reset_232 : decode cX11_reset 232 = .ok (.iconst 0, 1) := by decide +kernel
theorem dX11_reset_233 : decode cX11_reset 233 = .ok (.putfield 118, 3) := by decide +kernel
theorem dX11_reset_236 : decode cX11_reset 236 = .ok (.aload_n 0, 1) := by decide +kernel
theorem dX11_reset_237 : decode cX11_reset 237 = .ok (.iconst 0, 1) := by decide +kernel
theorem dX11_reset_238 : decode cX11_reset 238 = .ok (.putfield 121, 3) := by decide +kernel
theorem dX11_reset_241 : decode cX11_reset 241 = .ok (.aload_n 0, 1) := by decide +kernel
theorem dX11_reset_242 : decode cX11_reset 242 = .ok (.iconst 0, 1) := by decide +kernel
theorem dX11_reset_243 : decode cX11_reset 243 = .ok (.putfield 124, 3) := by decide +kernel
theorem dX11_reset_246 : decode cX11_reset 246 = .ok (.aload_n 0, 1) := by decide +kernel
theorem dX11_reset_247 : decode cX11_reset 247 = .ok (.iconst 0, 1) := by decide +kernel
theorem dX11_reset_248 : decode cX11_reset 248 = .ok (.putfield 127, 3) := by decide +kernel
theorem dX11_reset_251 : decode cX11_reset 251 = .ok (.aload_n 0, 1) := by decide +kernel
theorem dX11_reset_252 : decode cX11_reset 252 = .ok (.iconst 0, 1) := by decide +kernel
theorem dX11_reset_253 : decode cX11_reset 253 = .ok (.putfield 130, 3) := by decide +kernel
theorem dX11_reset_256 : decode cX11_reset 256 = .ok (.aload_n 0, 1) := by decide +kernel
theorem dX11_reset_257 : decode cX11_reset 257 = .ok (.iconst 0, 1) := by decide +kernel
theorem dX11_reset_258 : decode cX11_reset 258 = .ok (.putfield 133, 3) := by decide +kernel
theorem dX11_reset_261 : decode cX11_reset 261 = .ok (.return_, 1) := by decide +kernel
theorem dX11_mode_0 : decode cX11_mode 0 = .ok (.aload_n 0, 1) := by decide +kernel
theorem dX11_mode_1 : decode cX11_mode 1 = .ok (.getfield 77, 3) := by decide +kernel
theorem dX11_mode_4 : decode cX11_mode 4 = .ok (.iconst 3, 1) := by decide +kernel
theorem dX11_mode_5 : decode cX11_mode 5 = .ok (.iand, 1) := by decide +kernel
theorem dX11_mode_6 : decode cX11_mode 6 = .ok (.ireturn, 1) := by decide +kernel
theorem dX11_is_0 : decode cX11_is 0 = .ok (.aload_n 0, 1) := by decide +kernel
theorem dX11_is_1 : decode cX11_is 1 = .ok (.getfield 77, 3) := by decide +kernel
theorem dX11_is_4 : decode cX11_is 4 = .ok (.iload_n 1, 1) := by decide +kernel
theorem dX11_is_5 : decode cX11_is 5 = .ok (.ishr, 1) := by decide +kernel
theorem dX11_is_6 : decode cX11_is 6 = .ok (.iconst 1, 1) := by decide +kernel
theorem dX11_is_7 : decode cX11_is 7 = .ok (.iand, 1) := by decide +kernel
theorem dX11_is_8 : decode cX11_is 8 = .ok (.iconst 1, 1) := by decide +kernel
theorem dX11_is_9 : decode cX11_is 9 = .ok (.if_icmp .ne 7, 3) := by decide +kernel
theorem dX11_is_12 : decode cX11_is 12 = .ok (.iconst 1, 1) := by decide +kernel
theorem dX11_is_13 : decode cX11_is 13 = .ok (.goto 4, 3) := by decide +kernel
theorem dX11_is_16 : decode cX11_is 16 = .ok (.iconst 0, 1) := by decide +kernel
theorem dX11_is_17 : decode cX11_is 17 = .ok (.ireturn, 1) := by decide +kernel
theorem dX11_set_0 : decode cX11_set 0 = .ok (.aload_n 0, 1) := by decide +kernel
theorem dX11_set_1 : decode cX11_set 1 = .ok (.aload_n 0, 1) := by decide +kernel
theorem dX11_set_2 : decode cX11_set 2 = .ok (.getfield 77, 3) := by decide +kernel
theorem dX11_set_5 : decode cX11_set 5 = .ok (.iconst 1, 1) := by decide +kernel
theorem dX11_set_6 : decode cX11_set 6 = .ok (.iload_n 1, 1) := by decide +kernel
theorem dX11_set_7 : decode cX11_set 7 = .ok (.ishl, 1) := by decide +kernel
theorem dX11_set_8 : decode cX11_set 8 = .ok (.iconst (-1), 1) := by decide +kernel
theorem dX11_set_9 : decode cX11_set 9 = .ok (.ixor, 1) := by decide +kernel
theorem dX11_set_10 : decode cX11_set 10 = .ok (.iand, 1) := by decide +kernel
theorem dX11_set_11 : decode cX11_set 11 = .ok (.iload_n 2, 1) := by decide +kernel
theorem dX11_set_12 : decode cX11_set 12 = .ok (.ifCond .eq 9, 3) := by decide +kernel
theorem dX11_set_15 : decode cX11_set 15 = .ok (.iconst 1, 1) := by decide +kernel
theorem dX11_set_16 : decode cX11_set 16 = .ok (.iload_n 1, 1) := by decide +kernel
theorem dX11_set_17 : decode cX11_set 17 = .ok (.ishl, 1) := by decide +kernel
theorem dX11_set_18 : decode cX11_set 18 = .ok (.goto 4, 3) := by decide +kernel
theorem dX11_set_21 : decode cX11_set 21 = .ok (.iconst 0, 1) := by decide +kernel
theorem dX11_set_22 : decode cX11_set 22 = .ok (.ior, 1) := by decide +kernel
theorem dX11_set_23 : decode cX11_set 23 = .ok (.putfield 77, 3) := by decide +kernel
theorem dX11_set_26 : decode cX11_set 26 = .ok (.return_, 1) := by decide +kernel
theorem dX11_isOwn_0 : decode cX11_isOwn 0 = .ok (.iload_n 0, 1) := by decide +kernel
theorem dX11_isOwn_1 : decode cX11_isOwn 1 = .ok (.iconst 1, 1) := by decide +kernel
theorem dX11_isOwn_2 : decode cX11_isOwn 2 = .ok (.if_icmp .ne 15, 3) := by decide +kernel
theorem dX11_isOwn_5 : decode cX11_isOwn 5 = .ok (.iload_n 1, 1) := by decide +kernel
theorem dX11_isOwn_6 : decode cX11_isOwn 6 = .ok (.bipush 8, 2) := by decide +kernel
theorem dX11_isOwn_8 : decode cX11_isOwn 8 = .ok (.if_icmp .lt 9, 3) := by decide +kernel
theorem dX11_isOwn_11 : decode cX11_isOwn 11 = .ok (.iload_n 1, 1) := by decide +kernel
theorem dX11_isOwn_12 : decode cX11_isOwn 12 = .ok (.bipush 15, 2) := by decide +kernel
theorem dX11_isOwn_14 : decode cX11_isOwn 14 = .ok (.if_icmp .lt 20, 3) := by decide +kernel
theorem dX11_isOwn_17 : decode cX11_isOwn 17 = .ok (.iload_n 0, 1) := by decide +kernel
theorem dX11_isOwn_18 : decode cX11_isOwn 18 = .ok (.iconst 1, 1) := by decide +kernel
theorem dX11_isOwn_19 : decode cX11_isOwn 19 = .ok (.if_icmp .le 19, 3) := by decide +kernel
theorem dX11_isOwn_22 : decode cX11_isOwn 22 = .ok (.iload_n 1, 1) := by decide +kernel
theorem dX11_isOwn_23 : decode cX11_isOwn 23 = .ok (.bipush 13, 2) := by decide +kernel
theorem dX11_isOwn_25 : decode cX11_isOwn 25 = .ok (.if_icmp .eq 9, 3) := by decide +kernel
theorem dX11_isOwn_28 : decode cX11_isOwn 28 = .ok (.iload_n 1, 1) := by decide +kernel
theorem dX11_isOwn_29 : decode cX11_isOwn 29 = .ok (.bipush 14, 2) := by decide +kernel
theorem dX11_isOwn_31 : decode cX11_isOwn 31 = .ok (.if_icmp .ne 7, 3) := by decide +kernel
theorem dX11_isOwn_34 : decode cX11_isOwn 34 = .ok (.iconst 1, 1) := by decide +kernel
theorem dX11_isOwn_35 : decode cX11_isOwn 35 = .ok (.goto 4, 3) := by decide +kernel
theorem dX11_isOwn_38 : decode cX11_isOwn 38 = .ok (.iconst 0, 1) := by decide +kernel
theorem dX11_isOwn_39 : decode cX11_isOwn 39 = .ok (.ireturn, 1) := by decide +kernel
theorem dX11_get_0 : decode cX11_get 0 = .ok (.iload_n 2, 1) := by decide +kernel
theorem dX11_get_1 : decode cX11_get 1 = .ok (.bipush 15, 2) := by decide +kernel
theorem dX11_get_3 : decode cX11_get 3 = .ok (.if_icmp .ne 8, 3) := by decide +kernel
theorem dX11_get_6 : decode cX11_get 6 = .ok (.aload_n 0, 1) := by decide +kernel
theorem dX11_get_7 : decode cX11_get 7 = .ok (.getfield 77, 3) := by decide +kernel
theorem dX11_get_10 : decode cX11_get 10 = .ok (.ireturn, 1) := by decide +kernel
theorem dX11_get_11 : decode cX11_get 11 = .ok (.iload_n 1, 1) := by decide +kernel
theorem dX11_get_12 : decode cX11_get 12 = .ok (.iload_n 2, 1) := by decide +kernel
theorem dX11_get_13 : decode cX11_get 13 = .ok (.invokestatic 136, 3) := by decide +kernel
theorem dX11_get_16 : decode cX11_get 16 = .ok (.ifCond .ne 10, 3) := by decide +kernel
theorem dX11_get_19 : decode cX11_get 19 = .ok (.aload_n 0, 1) := by decide +kernel
theorem dX11_get_20 : decode cX11_get 20 = .ok (.getfield 7, 3) := by decide +kernel
theorem dX11_get_23 : decode cX11_get 23 = .ok (.iload_n 2, 1) := by decide +kernel
theorem dX11_get_24 : decode cX11_get 24 = .ok (.iaload, 1) := by decide +kernel
theorem dX11_get_25 : decode cX11_get 25 = .ok (.ireturn, 1) := by decide +kernel
theorem dX11_get_26 : decode cX11_get 26 = .ok (.iload_n 1, 1) := by decide +kernel
theorem dX11_get_27 : decode cX11_get 27 = .ok (.iconst 1, 1) := by decide +kernel
theorem dX11_get_28 : decode cX11_get 28 = .ok (.if_icmp .ne 15, 3) := by decide +kernel
theorem dX11_get_31 : decode cX11_get 31 = .ok (.aload_n 0, 1) := by decide +kernel
theorem dX11_get_32 : decode cX11_get 32 = .ok (.getfield 13, 3) := by decide +kernel
theorem dX11_get_35 : decode cX11_get 35 = .ok (.iload_n 2, 1) := by decide +kernel
theorem dX11_get_36 : decode cX11_get 36 = .ok (.bipush 8, 2) := by decide +kernel
theorem dX11_get_38 : decode cX11_get 38 = .ok (.isub, 1) := by decide +kernel
theorem dX11_get_39 : decode cX11_get 39 = .ok (.iaload, 1) := by decide +kernel
theorem dX11_get_40 : decode cX11_get 40 = .ok (.goto 29, 3) := by decide +kernel
theorem dX11_get_43 : decode cX11_get 43 = .ok (.iload_n 1, 1) := by decide +kernel
theorem dX11_get_44 : decode cX11_get 44 = .ok (.iconst 2, 1) := by decide +kernel
theorem dX11_get_45 : decode cX11_get 45 = .ok (.if_icmp .ne 15, 3) := by decide +kernel
theorem dX11_get_48 : decode cX11_get 48 = .ok (.aload_n 0, 1) := by decide +kernel
theorem dX11_get_49 : decode cX11_get 49 = .ok (.getfield 16, 3) := by decide +kernel
theorem dX11_get_52 : decode cX11_get 52 = .ok (.iload_n 2, 1) := by decide +kernel
theorem dX11_get_53 : decode cX11_get 53 = .ok (.bipush 13, 2) := by decide +kernel
theorem dX11_get_55 : decode cX11_get 55 = .ok (.isub, 1) := by decide +kernel
theorem dX11_get_56 : decode cX11_get 56 = .ok (.iaload, 1) := by decide +kernel
theorem dX11_get_57 : decode cX11_get 57 = .ok (.goto 12, 3) := by decide +kernel
theorem dX11_get_60 : decode cX11_get 60 = .ok (.aload_n 0, 1) := by decide +kernel
theorem dX11_get_61 : decode cX11_get 61 = .ok (.getfield 19, 3) := by decide +kernel
theorem dX11_get_64 : decode cX11_get 64 = .ok (.iload_n 2, 1) := by decide +kernel
theorem dX11_get_65 : decode cX11_get 65 = .ok (.bipush 13, 2) := by decide +kernel
theorem dX11_get_67 : decode cX11_get 67 = .ok (.isub, 1) := by decide +kernel
theorem dX11_get_68 : decode cX11_get 68 = .ok (.iaload, 1) := by decide +kernel
theorem dX11_get_69 : decode cX11_get 69 = .ok (.ireturn, 1) := by decide +kernel
theorem dX11_give_0 : decode cX11_give 0 = .ok (.iload_n 2, 1) := by decide +kernel
theorem dX11_give_1 : decode cX11_give 1 = .ok (.bipush 15, 2) := by decide +kernel
theorem dX11_give_3 : decode cX11_give 3 = .ok (.if_icmp .ne 11, 3) := by decide +kernel
theorem dX11_give_6 : decode cX11_give 6 = .ok (.aload_n 0, 1) := by decide +kernel
theorem dX11_give_7 : decode cX11_give 7 = .ok (.iload_n 3, 1) := by decide +kernel
theorem dX11_give_8 : decode cX11_give 8 = .ok (.putfield 77, 3) := by decide +kernel
theorem dX11_give_11 : decode cX11_give 11 = .ok (.goto 67, 3) := by decide +kernel
theorem dX11_give_14 : decode cX11_give 14 = .ok (.iload_n 1, 1) := by decide +kernel
theorem dX11_give_15 : decode cX11_give 15 = .ok (.iload_n 2, 1) := by decide +kernel
theorem dX11_give_16 : decode cX11_give 16 = .ok (.invokestatic 136, 3) := by decide +kernel
theorem dX11_give_19 : decode cX11_give 19 = .ok (.ifCond .ne 13, 3) := by decide +kernel
theorem dX11_give_22 : decode cX11_give 22 = .ok (.aload_n 0, 1) := by decide +kernel
theorem dX11_give_23 : decode cX11_give 23 = .ok (.getfield 7, 3) := by decide +kernel
theorem dX11_give_26 : decode cX11_give 26 = .ok (.iload_n 2, 1) := by decide +kernel
theorem dX11_give_27 : decode cX11_give 27 = .ok (.iload_n 3, 1) := by decide +kernel
theorem dX11_give_28 : decode cX11_give 28 = .ok (.iastore, 1) := by decide +kernel
theorem dX11_give_29 : decode cX11_give 29 = .ok (.goto 49, 3) := by decide +kernel
theorem dX11_give_32 : decode cX11_give 32 = .ok (.iload_n 1, 1) := by decide +kernel
theorem dX11_give_33 : decode cX11_give 33 = .ok (.iconst 1, 1) := by decide +kernel
theorem dX11_give_34 : decode cX11_give 34 = .ok (.if_icmp .ne 16, 3) := by decide +kernel
theorem dX11_give_37 : decode cX11_give 37 = .ok (.aload_n 0, 1) := by decide +kernel
theorem dX11_give_38 : decode cX11_give 38 = .ok (.getfield 13, 3) := by decide +kernel
theorem dX11_give_41 : decode cX11_give 41 = .ok (.iload_n 2, 1) := by decide +kernel
theorem dX11_give_42 : decode cX11_give 42 = .ok (.bipush 8, 2) := by decide +kernel
theorem dX11_give_44 : decode cX11_give 44 = .ok (.isub, 1) := by decide +kernel
theorem dX11_give_45 : decode cX11_give 45 = .ok (.iload_n 3, 1) := by decide +kernel
theorem dX11_give_46 : decode cX11_give 46 = .ok (.iastore, 1) := by decide +kernel
theorem dX11_give_47 : decode cX11_give 47 = .ok (.goto 31, 3) := by decide +kernel
theorem dX11_give_50 : decode cX11_give 50 = .ok (.iload_n 1, 1) := by decide +kernel
theorem dX11_give_51 : decode cX11_give 51 = .ok (.iconst 2, 1) := by decide +kernel
theorem dX11_give_52 : decode cX11_give 52 = .ok (.if_icmp .ne 16, 3) := by decide +kernel
theorem dX11_give_55 : decode cX11_give 55 = .ok (.aload_n 0, 1) := by decide +kernel
theorem dX11_give_56 : decode cX11_give 56 = .ok (.getfield 16, 3) := by decide +kernel
theorem dX11_give_59 : decode cX11_give 59 = .ok (.iload_n 2, 1) := by decide +kernel
theorem dX11_give_60 : decode cX11_give 60 = .ok (.bipush 13, 2) := by decide +kernel
theorem dX11_give_62 : decode cX11_give 62 = .ok (.isub, 1) := by decide +kernel
theorem dX11_give_63 : decode cX11_give 63 = .ok (.iload_n 3, 1) := by decide +kernel
theorem dX11_give_64 : decode cX11_give 64 = .ok (.iastore, 1) := by decide +kernel
theorem dX11_give_65 : decode cX11_give 65 = .ok (.goto 13, 3) := by decide +kernel
theorem dX11_give_68 : decode cX11_give 68 = .ok (.aload_n 0, 1) := by decide +kernel
theorem dX11_give_69 : decode cX11_give 69 = .ok (.getfield 19, 3) := by decide +kernel
theorem dX11_give_72 : decode cX11_give 72 = .ok (.iload_n 2, 1) := by decide +kernel
theorem dX11_give_73 : decode cX11_give 73 = .ok (.bipush 13, 2) := by decide +kernel
theorem dX11_give_75 : decode cX11_give 75 = .ok (.isub, 1) := by decide +kernel
theorem dX11_give_76 : decode cX11_give 76 = .ok (.iload_n 3, 1) := by decide +kernel
theorem dX11_give_77 : decode cX11_give 77 = .ok (.iastore, 1) := by decide +kernel
theorem dX11_give_78 : decode cX11_give 78 = .ok (.return_, 1) := by decide +kernel
theorem dX11_ahead_0 : decode cX11_ahead 0 = .ok (.aload_n 0, 1) := by decide +kernel
theorem dX11_ahead_1 : decode cX11_ahead 1 = .ok (.getfield 140, 3) := by decide +kernel
theorem dX11_ahead_4 : decode cX11_ahead 4 = .ok (.iload_n 1, 1) := by decide +kernel
theorem dX11_ahead_5 : decode cX11_ahead 5 = .ok (.iadd, 1) := by decide +kernel
theorem dX11_ahead_6 : decode cX11_ahead 6 = .ok (.ldc 143, 2) := by decide +kernel
theorem dX11_ahead_8 : decode cX11_ahead 8 = .ok (.iand, 1) := by decide +kernel
theorem dX11_ahead_9 : decode cX11_ahead 9 = .ok (.ireturn, 1) := by decide +kernel
theorem dX11_operand_0 : decode cX11_operand 0 = .ok (.iload_n 1, 1) := by decide +kernel
theorem dX11_operand_1 : decode cX11_operand 1 = .ok (.bipush 15, 2) := by decide +kernel
theorem dX11_operand_3 : decode cX11_operand 3 = .ok (.if_icmp .ne 12, 3) := by decide +kernel
theorem dX11_operand_6 : decode cX11_operand 6 = .ok (.aload_n 0, 1) := by decide +kernel
theorem dX11_operand_7 : decode cX11_operand 7 = .ok (.bipush 8, 2) := by decide +kernel
theorem dX11_operand_9 : decode cX11_operand 9 = .ok (.invokevirtual 144, 3) := by decide +kernel
theorem dX11_operand_12 : decode cX11_operand 12 = .ok (.goto 12, 3) := by decide +kernel
theorem dX11_operand_15 : decode cX11_operand 15 = .ok (.aload_n 0, 1) := by decide +kernel
theorem dX11_operand_16 : decode cX11_operand 16 = .ok (.aload_n 0, 1) := by decide +kernel
theorem dX11_operand_17 : decode cX11_operand 17 = .ok (.invokevirtual 148, 3) := by decide +kernel
theorem dX11_operand_20 : decode cX11_operand 20 = .ok (.iload_n 1, 1) := by decide +kernel
theorem dX11_operand_21 : decode cX11_operand 21 = .ok (.invokevirtual 152, 3) := by decide +kernel
theorem dX11_operand_24 : decode cX11_operand 24 = .ok (.ireturn, 1) := by decide +kernel
theorem dX11_setSigns_0 : decode cX11_setSigns 0 = .ok (.aload_n 0, 1) := by decide +kernel
theorem dX11_setSigns_1 : decode cX11_setSigns 1 = .ok (.invokevirtual 148, 3) := by decide +kernel
theorem dX11_setSigns_4 : decode cX11_setSigns 4 = .ok (.ifCond .ne 8, 3) := by decide +kernel
theorem dX11_setSigns_7 : decode cX11_setSigns 7 = .ok (.ldc 156, 2) := by decide +kernel
theorem dX11_setSigns_9 : decode cX11_setSigns 9 = .ok (.goto 5, 3) := by decide +kernel
theorem dX11_setSigns_12 : decode cX11_setSigns 12 = .ok (.ldc 157, 2) := by decide +kernel
theorem dX11_setSigns_14 : decode cX11_setSigns 14 = .ok (.istore_n 2, 1) := by decide +kernel
theorem dX11_setSigns_15 : decode cX11_setSigns 15 = .ok (.aload_n 0, 1) := by decide +kernel
theorem dX11_setSigns_16 : decode cX11_setSigns 16 = .ok (.aload_n 0, 1) := by decide +kernel
theorem dX11_setSigns_17 : decode cX11_setSigns 17 = .ok (.getfield 77, 3) := by decide +kernel
theorem dX11_setSigns_20 : decode cX11_setSigns 20 = .ok (.iload_n 2, 1) := by decide +kernel
theorem dX11_setSigns_21 : decode cX11_setSigns 21 = .ok (.iconst (-1), 1) := by decide +kernel
theorem dX11_setSigns_22 : decode cX11_setSigns 22 = .ok (.ixor, 1) := by decide +kernel
theorem dX11_setSigns_23 : decode cX11_setSigns 23 = .ok (.iand, 1) := by decide +kernel
theorem dX11_setSigns_24 : decode cX11_setSigns 24 = .ok (.iload_n 1, 1) := by decide +kernel
theorem dX11_setSigns_25 : decode cX11_setSigns 25 = .ok (.iload_n 2, 1) := by decide +kernel
theorem dX11_setSigns_26 : decode cX11_setSigns 26 = .ok (.iand, 1) := by decide +kernel
theorem dX11_setSigns_27 : decode cX11_setSigns 27 = .ok (.ior, 1) := by decide +kernel
theorem dX11_setSigns_28 : decode cX11_setSigns 28 = .ok (.putfield 77, 3) := by decide +kernel
theorem dX11_setSigns_31 : decode cX11_setSigns 31 = .ok (.return_, 1) := by decide +kernel
theorem dX11_pageOf_0 : decode cX11_pageOf 0 = .ok (.iconst 0, 1) := by decide +kernel
theorem dX11_pageOf_1 : decode cX11_pageOf 1 = .ok (.istore_n 2, 1) := by decide +kernel
theorem dX11_pageOf_2 : decode cX11_pageOf 2 = .ok (.iload_n 2, 1) := by decide +kernel
theorem dX11_pageOf_3 : decode cX11_pageOf 3 = .ok (.bipush 16, 2) := by decide +kernel
theorem dX11_pageOf_5 : decode cX11_pageOf 5 = .ok (.if_icmp .ge 24, 3) := by decide +kernel
theorem dX11_pageOf_8 : decode cX11_pageOf 8 = .ok (.aload_n 0, 1) := by decide +kernel
theorem dX11_pageOf_9 : decode cX11_pageOf 9 = .ok (.getfield 31, 3) := by decide +kernel
theorem dX11_pageOf_12 : decode cX11_pageOf 12 = .ok (.iload_n 2, 1) := by decide +kernel
theorem dX11_pageOf_13 : decode cX11_pageOf 13 = .ok (.iaload, 1) := by decide +kernel
theorem dX11_pageOf_14 : decode cX11_pageOf 14 = .ok (.iload_n 1, 1) := by decide +kernel
theorem dX11_pageOf_15 : decode cX11_pageOf 15 = .ok (.bipush 12, 2) := by decide +kernel
theorem dX11_pageOf_17 : decode cX11_pageOf 17 = .ok (.iushr, 1) := by decide +kernel
theorem dX11_pageOf_18 : decode cX11_pageOf 18 = .ok (.if_icmp .ne 5, 3) := by decide +kernel
theorem dX11_pageOf_21 : decode cX11_pageOf 21 = .ok (.iload_n 2, 1) := by decide +kernel
theorem dX11_pageOf_22 : decode cX11_pageOf 22 = .ok (.ireturn, 1) := by decide +kernel
theorem dX11_pageOf_23 : decode cX11_pageOf 23 = .ok (.iinc 2 1, 3) := by decide +kernel
theorem dX11_pageOf_26 : decode cX11_pageOf 26 = .ok (.goto (-24), 3) := by decide +kernel
theorem dX11_pageOf_29 : decode cX11_pageOf 29 = .ok (.iconst (-1), 1) := by decide +kernel
theorem dX11_pageOf_30 : decode cX11_pageOf 30 = .ok (.ireturn, 1) := by decide +kernel
theorem dX11_may_0 : decode cX11_may 0 = .ok (.iload_n 2, 1) := by decide +kernel
theorem dX11_may_1 : decode cX11_may 1 = .ok (.ldc 158, 2) := by decide +kernel
theorem dX11_may_3 : decode cX11_may 3 = .ok (.if_icmp .lt 13, 3) := by decide +kernel
theorem dX11_may_6 : decode cX11_may 6 = .ok (.iload_n 1, 1) := by decide +kernel
theorem dX11_may_7 : decode cX11_may 7 = .ok (.ifCond .eq 7, 3) := by decide +kernel
theorem dX11_may_10 : decode cX11_may 10 = .ok (.iconst 1, 1) := by decide +kernel
theorem dX11_may_11 : decode cX11_may 11 = .ok (.goto 4, 3) := by decide +kernel
theorem dX11_may_14 : decode cX11_may 14 = .ok (.iconst 0, 1) := by decide +kernel
theorem dX11_may_15 : decode cX11_may 15 = .ok (.ireturn, 1) := by decide +kernel
theorem dX11_may_16 : decode cX11_may 16 = .ok (.aload_n 0, 1) := by decide +kernel
theorem dX11_may_17 : decode cX11_may 17 = .ok (.iload_n 2, 1) := by decide +kernel
theorem dX11_may_18 : decode cX11_may 18 = .ok (.invokevirtual 159, 3) := by decide +kernel
theorem dX11_may_21 : decode cX11_may 21 = .ok (.istore 4, 2) := by decide +kernel
theorem dX11_may_23 : decode cX11_may 23 = .ok (.iload 4, 2) := by decide +kernel
theorem dX11_may_25 : decode cX11_may 25 = .ok (.iconst (-1), 1) := by decide +kernel
theorem dX11_may_26 : decode cX11_may 26 = .ok (.if_icmp .ne 5, 3) := by decide +kernel
theorem dX11_may_29 : decode cX11_may 29 = .ok (.iconst 0, 1) := by decide +kernel
theorem dX11_may_30 : decode cX11_may 30 = .ok (.ireturn, 1) := by decide +kernel
theorem dX11_may_31 : decode cX11_may 31 = .ok (.iload_n 1, 1) := by decide +kernel
theorem dX11_may_32 : decode cX11_may 32 = .ok (.ifCond .ne 13, 3) := by decide +kernel
theorem dX11_may_35 : decode cX11_may 35 = .ok (.aload_n 0, 1) := by decide +kernel
theorem dX11_may_36 : decode cX11_may 36 = .ok (.getfield 34, 3) := by decide +kernel
theorem dX11_may_39 : decode cX11_may 39 = .ok (.iload 4, 2) := by decide +kernel
theorem dX11_may_41 : decode cX11_may 41 = .ok (.iaload, 1) := by decide +kernel
theorem dX11_may_42 : decode cX11_may 42 = .ok (.ifCond .ne 5, 3) := by decide +kernel
theorem dX11_may_45 : decode cX11_may 45 = .ok (.iconst 1, 1) := by decide +kernel
theorem dX11_may_46 : decode cX11_may 46 = .ok (.ireturn, 1) := by decide +kernel
theorem dX11_may_47 : decode cX11_may 47 = .ok (.aload_n 0, 1) := by decide +kernel
theorem dX11_may_48 : decode cX11_may 48 = .ok (.getfield 34, 3) := by decide +kernel
theorem dX11_may_51 : decode cX11_may 51 = .ok (.iload 4, 2) := by decide +kernel
theorem dX11_may_53 : decode cX11_may 53 = .ok (.iaload, 1) := by decide +kernel
theorem dX11_may_54 : decode cX11_may 54 = .ok (.iconst 1, 1) := by decide +kernel
theorem dX11_may_55 : decode cX11_may 55 = .ok (.if_icmp .ne 21, 3) := by decide +kernel
theorem dX11_may_58 : decode cX11_may 58 = .ok (.iload_n 3, 1) := by decide +kernel
theorem dX11_may_59 : decode cX11_may 59 = .ok (.ifCond .eq 11, 3) := by decide +kernel
theorem dX11_may_62 : decode cX11_may 62 = .ok (.aload_n 0, 1) := by decide +kernel
theorem dX11_may_63 : decode cX11_may 63 = .ok (.getfield 89, 3) := by decide +kernel
theorem dX11_may_66 : decode cX11_may 66 = .ok (.iconst 1, 1) := by decide +kernel
theorem dX11_may_67 : decode cX11_may 67 = .ok (.if_icmp .ne 7, 3) := by decide +kernel
theorem dX11_may_70 : decode cX11_may 70 = .ok (.iconst 1, 1) := by decide +kernel
theorem dX11_may_71 : decode cX11_may 71 = .ok (.goto 4, 3) := by decide +kernel
theorem dX11_may_74 : decode cX11_may 74 = .ok (.iconst 0, 1) := by decide +kernel
theorem dX11_may_75 : decode cX11_may 75 = .ok (.ireturn, 1) := by decide +kernel
theorem dX11_may_76 : decode cX11_may 76 = .ok (.iload_n 3, 1) := by decide +kernel
theorem dX11_may_77 : decode cX11_may 77 = .ok (.ifCond .ne 15, 3) := by decide +kernel
theorem dX11_may_80 : decode cX11_may 80 = .ok (.aload_n 0, 1) := by decide +kernel
theorem dX11_may_81 : decode cX11_may 81 = .ok (.getfield 89, 3) := by decide +kernel
theorem dX11_may_84 : decode cX11_may 84 = .ok (.iconst 1, 1) := by decide +kernel
theorem dX11_may_85 : decode cX11_may 85 = .ok (.if_icmp .ne 7, 3) := by decide +kernel
theorem dX11_may_88 : decode cX11_may 88 = .ok (.iconst 1, 1) := by decide +kernel
theorem dX11_may_89 : decode cX11_may 89 = .ok (.goto 4, 3) := by decide +kernel
theorem dX11_may_92 : decode cX11_may 92 = .ok (.iconst 0, 1) := by decide +kernel
theorem dX11_may_93 : decode cX11_may 93 = .ok (.ireturn, 1) := by decide +kernel
theorem dX11_wordAt_0 : decode cX11_wordAt 0 = .ok (.iload_n 1, 1) := by decide +kernel
theorem dX11_wordAt_1 : decode cX11_wordAt 1 = .ok (.ldc 162, 2) := by decide +kernel
theorem dX11_wordAt_3 : decode cX11_wordAt 3 = .ok (.if_icmp .lt 5, 3) := by decide +kernel
theorem dX11_wordAt_6 : decode cX11_wordAt 6 = .ok (.iconst (-1), 1) := by decide +kernel
theorem dX11_wordAt_7 : decode cX11_wordAt 7 = .ok (.ireturn, 1) := by decide +kernel
theorem dX11_wordAt_8 : decode cX11_wordAt 8 = .ok (.iload_n 1, 1) := by decide +kernel
theorem dX11_wordAt_9 : decode cX11_wordAt 9 = .ok (.ldc 158, 2) := by decide +kernel
theorem dX11_wordAt_11 : decode cX11_wordAt 11 = .ok (.if_icmp .lt 11, 3) := by decide +kernel
theorem dX11_wordAt_14 : decode cX11_wordAt 14 = .ok (.iload_n 1, 1) := by decide +kernel
theorem dX11_wordAt_15 : decode cX11_wordAt 15 = .ok (.iconst 2, 1) := by decide +kernel
theorem dX11_wordAt_16 : decode cX11_wordAt 16 = .ok (.iushr, 1) := by decide +kernel
theorem dX11_wordAt_17 : decode cX11_wordAt 17 = .ok (.sipush 16383, 3) := by decide +kernel
theorem dX11_wordAt_20 : decode cX11_wordAt 20 = .ok (.iand, 1) := by decide +kernel
theorem dX11_wordAt_21 : decode cX11_wordAt 21 = .ok (.ireturn, 1) := by decide +kernel
theorem dX11_wordAt_22 : decode cX11_wordAt 22 = .ok (.sipush 1024, 3) := by decide +kernel
theorem dX11_wordAt_25 : decode cX11_wordAt 25 = .ok (.aload_n 0, 1) := by decide +kernel
theorem dX11_wordAt_26 : decode cX11_wordAt 26 = .ok (.iload_n 1, 1) := by decide +kernel
theorem dX11_wordAt_27 : decode cX11_wordAt 27 = .ok (.invokevirtual 159, 3) := by decide +kernel
theorem dX11_wordAt_30 : decode cX11_wordAt 30 = .ok (.imul, 1) := by decide +kernel
theorem dX11_wordAt_31 : decode cX11_wordAt 31 = .ok (.iload_n 1, 1) := by decide +kernel
theorem dX11_wordAt_32 : decode cX11_wordAt 32 = .ok (.iconst 2, 1) := by decide +kernel
theorem dX11_wordAt_33 : decode cX11_wordAt 33 = .ok (.iushr, 1) := by decide +kernel
theorem dX11_wordAt_34 : decode cX11_wordAt 34 = .ok (.sipush 1023, 3) := by decide +kernel
theorem dX11_wordAt_37 : decode cX11_wordAt 37 = .ok (.iand, 1) := by decide +kernel
theorem dX11_wordAt_38 : decode cX11_wordAt 38 = .ok (.iadd, 1) := by decide +kernel
theorem dX11_wordAt_39 : decode cX11_wordAt 39 = .ok (.ireturn, 1) := by decide +kernel
theorem dX11_readFar_0 : decode cX11_readFar 0 = .ok (.iload_n 1, 1) := by decide +kernel
theorem dX11_readFar_1 : decode cX11_readFar 1 = .ok (.ldc 163, 2) := by decide +kernel
theorem dX11_readFar_3 : decode cX11_readFar 3 = .ok (.if_icmp .lt 5, 3) := by decide +kernel
theorem dX11_readFar_6 : decode cX11_readFar 6 = .ok (.iconst 0, 1) := by decide +kernel
theorem dX11_readFar_7 : decode cX11_readFar 7 = .ok (.ireturn, 1) := by decide +kernel
theorem dX11_readFar_8 : decode cX11_readFar 8 = .ok (.iload_n 1, 1) := by decide +kernel
theorem dX11_readFar_9 : decode cX11_readFar 9 = .ok (.iconst 2, 1) := by decide +kernel
theorem dX11_readFar_10 : decode cX11_readFar 10 = .ok (.iushr, 1) := by decide +kernel
theorem dX11_readFar_11 : decode cX11_readFar 11 = .ok (.ldc 164, 2) := by decide +kernel
theorem dX11_readFar_13 : decode cX11_readFar 13 = .ok (.iand, 1) := by decide +kernel
theorem dX11_readFar_14 : decode cX11_readFar 14 = .ok (.istore_n 2, 1) := by decide +kernel
theorem dX11_readFar_15 : decode cX11_readFar 15 = .ok (.aload_n 0, 1) := by decide +kernel
theorem dX11_readFar_16 : decode cX11_readFar 16 = .ok (.iload_n 2, 1) := by decide +kernel
theorem dX11_readFar_17 : decode cX11_readFar 17 = .ok (.invokevirtual 165, 3) := by decide +kernel
theorem dX11_readFar_20 : decode cX11_readFar 20 = .ok (.istore_n 3, 1) := by decide +kernel
theorem dX11_readFar_21 : decode cX11_readFar 21 = .ok (.iload_n 2, 1) := by decide +kernel
theorem dX11_readFar_22 : decode cX11_readFar 22 = .ok (.ldc 168, 2) := by decide +kernel
theorem dX11_readFar_24 : decode cX11_readFar 24 = .ok (.if_icmp .ne 8, 3) := by decide +kernel
theorem dX11_readFar_27 : decode cX11_readFar 27 = .ok (.aload_n 0, 1) := by decide +kernel
theorem dX11_readFar_28 : decode cX11_readFar 28 = .ok (.iconst 0, 1) := by decide +kernel
theorem dX11_readFar_29 : decode cX11_readFar 29 = .ok (.putfield 111, 3) := by decide +kernel
theorem dX11_readFar_32 : decode cX11_readFar 32 = .ok (.iload_n 2, 1) := by decide +kernel
theorem dX11_readFar_33 : decode cX11_readFar 33 = .ok (.sipush 16386, 3) := by decide +kernel
theorem dX11_readFar_36 : decode cX11_readFar 36 = .ok (.if_icmp .ne 8, 3) := by decide +kernel
theorem dX11_readFar_39 : decode cX11_readFar 39 = .ok (.aload_n 0, 1) := by decide +kernel
theorem dX11_readFar_40 : decode cX11_readFar 40 = .ok (.iconst 0, 1) := by decide +kernel
theorem dX11_readFar_41 : decode cX11_readFar 41 = .ok (.putfield 133, 3) := by decide +kernel
theorem dX11_readFar_44 : decode cX11_readFar 44 = .ok (.iload_n 3, 1) := by decide +kernel
theorem dX11_readFar_45 : decode cX11_readFar 45 = .ok (.ireturn, 1) := by decide +kernel
theorem dX11_writeFar_0 : decode cX11_writeFar 0 = .ok (.iload_n 1, 1) := by decide +kernel
theorem dX11_writeFar_1 : decode cX11_writeFar 1 = .ok (.ldc 163, 2) := by decide +kernel
theorem dX11_writeFar_3 : decode cX11_writeFar 3 = .ok (.if_icmp .ge 21, 3) := by decide +kernel
theorem dX11_writeFar_6 : decode cX11_writeFar 6 = .ok (.aload_n 0, 1) := by decide +kernel
theorem dX11_writeFar_7 : decode cX11_writeFar 7 = .ok (.iload_n 1, 1) := by decide +kernel
theorem dX11_writeFar_8 : decode cX11_writeFar 8 = .ok (.iconst 2, 1) := by decide +kernel
theorem dX11_writeFar_9 : decode cX11_writeFar 9 = .ok (.iushr, 1) := by decide +kernel
theorem dX11_writeFar_10 : decode cX11_writeFar 10 = .ok (.ldc 164, 2) := by decide +kernel
theorem dX11_writeFar_12 : decode cX11_writeFar 12 = .ok (.iand, 1) := by decide +kernel
theorem dX11_writeFar_13 : decode cX11_writeFar 13 = .ok (.iload_n 2, 1) := by decide +kernel
theorem dX11_writeFar_14 : decode cX11_writeFar 14 = .ok (.sipush 255, 3) := by decide +kernel
theorem dX11_writeFar_17 : decode cX11_writeFar 17 = .ok (.iand, 1) := by decide +kernel
theorem dX11_writeFar_18 : decode cX11_writeFar 18 = .ok (.invokevirtual 169, 3) := by decide +kernel
theorem dX11_writeFar_21 : decode cX11_writeFar 21 = .ok (.goto 179, 3) := by decide +kernel
theorem dX11_writeFar_24 : decode cX11_writeFar 24 = .ok (.iload_n 1, 1) := by decide +kernel
theorem dX11_writeFar_25 : decode cX11_writeFar 25 = .ok (.ldc 173, 2) := by decide +kernel
theorem dX11_writeFar_27 : decode cX11_writeFar 27 = .ok (.if_icmp .ge 58, 3) := by decide +kernel
theorem dX11_writeFar_30 : decode cX11_writeFar 30 = .ok (.iload_n 2, 1) := by decide +kernel
theorem dX11_writeFar_31 : decode cX11_writeFar 31 = .ok (.bipush 26, 2) := by decide +kernel
theorem dX11_writeFar_33 : decode cX11_writeFar 33 = .ok (.iushr, 1) := by decide +kernel
theorem dX11_writeFar_34 : decode cX11_writeFar 34 = .ok (.istore_n 3, 1) := by decide +kernel
theorem dX11_writeFar_35 : decode cX11_writeFar 35 = .ok (.iload_n 3, 1) := by decide +kernel
theorem dX11_writeFar_36 : decode cX11_writeFar 36 = .ok (.bipush 16, 2) := by decide +kernel
theorem dX11_writeFar_38 : decode cX11_writeFar 38 = .ok (.if_icmp .ge 14, 3) := by decide +kernel
theorem dX11_writeFar_41 : decode cX11_writeFar 41 = .ok (.aload_n 0, 1) := by decide +kernel
theorem dX11_writeFar_42 : decode cX11_writeFar 42 = .ok (.getfield 37, 3) := by decide +kernel
theorem dX11_writeFar_45 : decode cX11_writeFar 45 = .ok (.iload_n 3, 1) := by decide +kernel
theorem dX11_writeFar_46 : decode cX11_writeFar 46 = .ok (.iload_n 2, 1) := by decide +kernel
theorem dX11_writeFar_47 : decode cX11_writeFar 47 = .ok (.sipush 8191, 3) := by decide +kernel
theorem dX11_writeFar_50 : decode cX11_writeFar 50 = .ok (.iand, 1) := by decide +kernel
theorem dX11_writeFar_51 : decode cX11_writeFar 51 = .ok (.iastore, 1) := by decide +kernel
theorem dX11_writeFar_52 : decode cX11_writeFar 52 = .ok (.iload_n 3, 1) := by decide +kernel
theorem dX11_writeFar_53 : decode cX11_writeFar 53 = .ok (.bipush 16, 2) := by decide +kernel
theorem dX11_writeFar_55 : decode cX11_writeFar 55 = .ok (.if_icmp .ne 12, 3) := by decide +kernel
theorem dX11_writeFar_58 : decode cX11_writeFar 58 = .ok (.aload_n 0, 1) := by decide +kernel
theorem dX11_writeFar_59 : decode cX11_writeFar 59 = .ok (.iload_n 2, 1) := by decide +kernel
theorem dX11_writeFar_60 : decode cX11_writeFar 60 = .ok (.sipush 8191, 3) := by decide +kernel
theorem dX11_writeFar_63 : decode cX11_writeFar 63 = .ok (.iand, 1) := by decide +kernel
theorem dX11_writeFar_64 : decode cX11_writeFar 64 = .ok (.putfield 80, 3) := by decide +kernel
theorem dX11_writeFar_67 : decode cX11_writeFar 67 = .ok (.iload_n 3, 1) := by decide +kernel
theorem dX11_writeFar_68 : decode cX11_writeFar 68 = .ok (.bipush 56, 2) := by decide +kernel
theorem dX11_writeFar_70 : decode cX11_writeFar 70 = .ok (.if_icmp .ne 12, 3) := by decide +kernel
theorem dX11_writeFar_73 : decode cX11_writeFar 73 = .ok (.aload_n 0, 1) := by decide +kernel
theorem dX11_writeFar_74 : decode cX11_writeFar 74 = .ok (.iload_n 2, 1) := by decide +kernel
theorem dX11_writeFar_75 : decode cX11_writeFar 75 = .ok (.iconst 2, 1) := by decide +kernel
theorem dX11_writeFar_76 : decode cX11_writeFar 76 = .ok (.ishr, 1) := by decide +kernel
theorem dX11_writeFar_77 : decode cX11_writeFar 77 = .ok (.iconst 3, 1) := by decide +kernel
theorem dX11_writeFar_78 : decode cX11_writeFar 78 = .ok (.iand, 1) := by decide +kernel
theorem dX11_writeFar_79 : decode cX11_writeFar 79 = .ok (.putfield 83, 3) := by decide +kernel
theorem dX11_writeFar_82 : decode cX11_writeFar 82 = .ok (.goto 118, 3) := by decide +kernel
theorem dX11_writeFar_85 : decode cX11_writeFar 85 = .ok (.iload_n 1, 1) := by decide +kernel
theorem dX11_writeFar_86 : decode cX11_writeFar 86 = .ok (.ldc 174, 2) := by decide +kernel
theorem dX11_writeFar_88 : decode cX11_writeFar 88 = .ok (.if_icmp .ge 58, 3) := by decide +kernel
theorem dX11_writeFar_91 : decode cX11_writeFar 91 = .ok (.iload_n 1, 1) := by decide +kernel
theorem dX11_writeFar_92 : decode cX11_writeFar 92 = .ok (.bipush 17, 2) := by decide +kernel
theorem dX11_writeFar_94 : decode cX11_writeFar 94 = .ok (.ishr, 1) := by decide +kernel
theorem dX11_writeFar_95 : decode cX11_writeFar 95 = .ok (.bipush 7, 2) := by decide +kernel
theorem dX11_writeFar_97 : decode cX11_writeFar 97 = .ok (.iand, 1) := by decide +kernel
theorem dX11_writeFar_98 : decode cX11_writeFar 98 = .ok (.istore_n 3, 1) := by decide +kernel
theorem dX11_writeFar_99 : decode cX11_writeFar 99 = .ok (.iload_n 3, 1) := by decide +kernel
theorem dX11_writeFar_100 : decode cX11_writeFar 100 = .ok (.iconst 3, 1) := by decide +kernel
theorem dX11_writeFar_101 : decode cX11_writeFar 101 = .ok (.if_icmp .ge 16, 3) := by decide +kernel
theorem dX11_writeFar_104 : decode cX11_writeFar 104 = .ok (.aload_n 0, 1) := by decide +kernel
theorem dX11_writeFar_105 : decode cX11_writeFar 105 = .ok (.getfield 40, 3) := by decide +kernel
theorem dX11_writeFar_108 : decode cX11_writeFar 108 = .ok (.iload_n 3, 1) := by decide +kernel
theorem dX11_writeFar_109 : decode cX11_writeFar 109 = .ok (.iload_n 1, 1) := by decide +kernel
theorem dX11_writeFar_110 : decode cX11_writeFar 110 = .ok (.iconst 2, 1) := by decide +kernel
theorem dX11_writeFar_111 : decode cX11_writeFar 111 = .ok (.ishr, 1) := by decide +kernel
theorem dX11_writeFar_112 : decode cX11_writeFar 112 = .ok (.sipush 32767, 3) := by decide +kernel
theorem dX11_writeFar_115 : decode cX11_writeFar 115 = .ok (.iand, 1) := by decide +kernel
theorem dX11_writeFar_116 : decode cX11_writeFar 116 = .ok (.iastore, 1) := by decide +kernel
theorem dX11_writeFar_117 : decode cX11_writeFar 117 = .ok (.iload_n 3, 1) := by decide +kernel
theorem dX11_writeFar_118 : decode cX11_writeFar 118 = .ok (.bipush 7, 2) := by decide +kernel
theorem dX11_writeFar_120 : decode cX11_writeFar 120 = .ok (.if_icmp .ne 23, 3) := by decide +kernel
theorem dX11_writeFar_123 : decode cX11_writeFar 123 = .ok (.aload_n 0, 1) := by decide +kernel
theorem dX11_writeFar_124 : decode cX11_writeFar 124 = .ok (.iload_n 1, 1) := by decide +kernel
theorem dX11_writeFar_125 : decode cX11_writeFar 125 = .ok (.bipush 10, 2) := by decide +kernel
theorem dX11_writeFar_127 : decode cX11_writeFar 127 = .ok (.ishr, 1) := by decide +kernel
theorem dX11_writeFar_128 : decode cX11_writeFar 128 = .ok (.iconst 1, 1) := by decide +kernel
theorem dX11_writeFar_129 : decode cX11_writeFar 129 = .ok (.iand, 1) := by decide +kernel
theorem dX11_writeFar_130 : decode cX11_writeFar 130 = .ok (.putfield 86, 3) := by decide +kernel
theorem dX11_writeFar_133 : decode cX11_writeFar 133 = .ok (.aload_n 0, 1) := by decide +kernel
theorem dX11_writeFar_134 : decode cX11_writeFar 134 = .ok (.iload_n 1, 1) := by decide +kernel
theorem dX11_writeFar_135 : decode cX11_writeFar 135 = .ok (.bipush 12, 2) := by decide +kernel
theorem dX11_writeFar_137 : decode cX11_writeFar 137 = .ok (.ishr, 1) := by decide +kernel
theorem dX11_writeFar_138 : decode cX11_writeFar 138 = .ok (.iconst 1, 1) := by decide +kernel
theorem dX11_writeFar_139 : decode cX11_writeFar 139 = .ok (.iand, 1) := by decide +kernel
theorem dX11_writeFar_140 : decode cX11_writeFar 140 = .ok (.putfield 89, 3) := by decide +kernel
theorem dX11_writeFar_143 : decode cX11_writeFar 143 = .ok (.goto 57, 3) := by decide +kernel
theorem dX11_writeFar_146 : decode cX11_writeFar 146 = .ok (.iload_n 1, 1) := by decide +kernel
theorem dX11_writeFar_147 : decode cX11_writeFar 147 = .ok (.bipush 15, 2) := by decide +kernel
theorem dX11_writeFar_149 : decode cX11_writeFar 149 = .ok (.iand, 1) := by decide +kernel
theorem dX11_writeFar_150 : decode cX11_writeFar 150 = .ok (.istore_n 3, 1) := by decide +kernel
theorem dX11_writeFar_151 : decode cX11_writeFar 151 = .ok (.aload_n 0, 1) := by decide +kernel
theorem dX11_writeFar_152 : decode cX11_writeFar 152 = .ok (.getfield 34, 3) := by decide +kernel
theorem dX11_writeFar_155 : decode cX11_writeFar 155 = .ok (.iload_n 3, 1) := by decide +kernel
theorem dX11_writeFar_156 : decode cX11_writeFar 156 = .ok (.iload_n 1, 1) := by decide +kernel
theorem dX11_writeFar_157 : decode cX11_writeFar 157 = .ok (.bipush 8, 2) := by decide +kernel
theorem dX11_writeFar_159 : decode cX11_writeFar 159 = .ok (.ishr, 1) := by decide +kernel
theorem dX11_writeFar_160 : decode cX11_writeFar 160 = .ok (.iconst 3, 1) := by decide +kernel
theorem dX11_writeFar_161 : decode cX11_writeFar 161 = .ok (.iand, 1) := by decide +kernel
theorem dX11_writeFar_162 : decode cX11_writeFar 162 = .ok (.iastore, 1) := by decide +kernel
theorem dX11_writeFar_163 : decode cX11_writeFar 163 = .ok (.aload_n 0, 1) := by decide +kernel
theorem dX11_writeFar_164 : decode cX11_writeFar 164 = .ok (.getfield 31, 3) := by decide +kernel
theorem dX11_writeFar_167 : decode cX11_writeFar 167 = .ok (.iload_n 3, 1) := by decide +kernel
theorem dX11_writeFar_168 : decode cX11_writeFar 168 = .ok (.iload_n 1, 1) := by decide +kernel
theorem dX11_writeFar_169 : decode cX11_writeFar 169 = .ok (.iconst 4, 1) := by decide +kernel
theorem dX11_writeFar_170 : decode cX11_writeFar 170 = .ok (.ishr, 1) := by decide +kernel
theorem dX11_writeFar_171 : decode cX11_writeFar 171 = .ok (.iconst 1, 1) := by decide +kernel
theorem dX11_writeFar_172 : decode cX11_writeFar 172 = .ok (.iand, 1) := by decide +kernel
theorem dX11_writeFar_173 : decode cX11_writeFar 173 = .ok (.iconst 1, 1) := by decide +kernel
theorem dX11_writeFar_174 : decode cX11_writeFar 174 = .ok (.if_icmp .ne 7, 3) := by decide +kernel
theorem dX11_writeFar_177 : decode cX11_writeFar 177 = .ok (.iconst (-1), 1) := by decide +kernel
theorem dX11_writeFar_178 : decode cX11_writeFar 178 = .ok (.goto 21, 3) := by decide +kernel
theorem dX11_writeFar_181 : decode cX11_writeFar 181 = .ok (.iload_n 1, 1) := by decide +kernel
theorem dX11_writeFar_182 : decode cX11_writeFar 182 = .ok (.bipush 12, 2) := by decide +kernel
theorem dX11_writeFar_184 : decode cX11_writeFar 184 = .ok (.ishr, 1) := by decide +kernel
theorem dX11_writeFar_185 : decode cX11_writeFar 185 = .ok (.sipush 2047, 3) := by decide +kernel
theorem dX11_writeFar_188 : decode cX11_writeFar 188 = .ok (.iand, 1) := by decide +kernel
theorem dX11_writeFar_189 : decode cX11_writeFar 189 = .ok (.iload_n 1, 1) := by decide +kernel
theorem dX11_writeFar_190 : decode cX11_writeFar 190 = .ok (.bipush 10, 2) := by decide +kernel
theorem dX11_writeFar_192 : decode cX11_writeFar 192 = .ok (.ishr, 1) := by decide +kernel
theorem dX11_writeFar_193 : decode cX11_writeFar 193 = .ok (.iconst 3, 1) := by decide +kernel
theorem dX11_writeFar_194 : decode cX11_writeFar 194 = .ok (.iand, 1) := by decide +kernel
theorem dX11_writeFar_195 : decode cX11_writeFar 195 = .ok (.bipush 11, 2) := by decide +kernel
theorem dX11_writeFar_197 : decode cX11_writeFar 197 = .ok (.ishl, 1) := by decide +kernel
theorem dX11_writeFar_198 : decode cX11_writeFar 198 = .ok (.ior, 1) := by decide +kernel
theorem dX11_writeFar_199 : decode cX11_writeFar 199 = .ok (.iastore, 1) := by decide +kernel
theorem dX11_writeFar_200 : decode cX11_writeFar 200 = .ok (.return_, 1) := by decide +kernel
theorem dX11_statusA_0 : decode cX11_statusA 0 = .ok (.sipush 128, 3) := by decide +kernel
theorem dX11_statusA_3 : decode cX11_statusA 3 = .ok (.aload_n 0, 1) := by decide +kernel
theorem dX11_statusA_4 : decode cX11_statusA 4 = .ok (.getfield 46, 3) := by decide +kernel
theorem dX11_statusA_7 : decode cX11_statusA 7 = .ok (.iconst 1, 1) := by decide +kernel
theorem dX11_statusA_8 : decode cX11_statusA 8 = .ok (.iaload, 1) := by decide +kernel
theorem dX11_statusA_9 : decode cX11_statusA 9 = .ok (.bipush 6, 2) := by decide +kernel
theorem dX11_statusA_11 : decode cX11_statusA 11 = .ok (.ishl, 1) := by decide +kernel
theorem dX11_statusA_12 : decode cX11_statusA 12 = .ok (.ior, 1) := by decide +kernel
theorem dX11_statusA_13 : decode cX11_statusA 13 = .ok (.aload_n 0, 1) := by decide +kernel
theorem dX11_statusA_14 : decode cX11_statusA 14 = .ok (.getfield 46, 3) := by decide +kernel
theorem dX11_statusA_17 : decode cX11_statusA 17 = .ok (.iconst 0, 1) := by decide +kernel
theorem dX11_statusA_18 : decode cX11_statusA 18 = .ok (.iaload, 1) := by decide +kernel
theorem dX11_statusA_19 : decode cX11_statusA 19 = .ok (.iconst 5, 1) := by decide +kernel
theorem dX11_statusA_20 : decode cX11_statusA 20 = .ok (.ishl, 1) := by decide +kernel
theorem dX11_statusA_21 : decode cX11_statusA 21 = .ok (.ior, 1) := by decide +kernel
theorem dX11_statusA_22 : decode cX11_statusA 22 = .ok (.aload_n 0, 1) := by decide +kernel
theorem dX11_statusA_23 : decode cX11_statusA 23 = .ok (.getfield 96, 3) := by decide +kernel
theorem dX11_statusA_26 : decode cX11_statusA 26 = .ok (.iconst 3, 1) := by decide +kernel
theorem dX11_statusA_27 : decode cX11_statusA 27 = .ok (.ishl, 1) := by decide +kernel
theorem dX11_statusA_28 : decode cX11_statusA 28 = .ok (.ior, 1) := by decide +kernel
theorem dX11_statusA_29 : decode cX11_statusA 29 = .ok (.ireturn, 1) := by decide +kernel
theorem dX11_statusB_0 : decode cX11_statusB 0 = .ok (.aload_n 0, 1) := by decide +kernel
theorem dX11_statusB_1 : decode cX11_statusB 1 = .ok (.getfield 133, 3) := by decide +kernel
theorem dX11_statusB_4 : decode cX11_statusB 4 = .ok (.ifCond .eq 8, 3) := by decide +kernel
theorem dX11_statusB_7 : decode cX11_statusB 7 = .ok (.bipush 8, 2) := by decide +kernel
theorem dX11_statusB_9 : decode cX11_statusB 9 = .ok (.goto 4, 3) := by decide +kernel
theorem dX11_statusB_12 : decode cX11_statusB 12 = .ok (.iconst 0, 1) := by decide +kernel
theorem dX11_statusB_13 : decode cX11_statusB 13 = .ok (.aload_n 0, 1) := by decide +kernel
theorem dX11_statusB_14 : decode cX11_statusB 14 = .ok (.getfield 115, 3) := by decide +kernel
theorem dX11_statusB_17 : decode cX11_statusB 17 = .ok (.ifCond .ne 8, 3) := by decide +kernel
theorem dX11_statusB_20 : decode cX11_statusB 20 = .ok (.bipush 64, 2) := by decide +kernel
theorem dX11_statusB_22 : decode cX11_statusB 22 = .ok (.goto 4, 3) := by decide +kernel
theorem dX11_statusB_25 : decode cX11_statusB 25 = .ok (.iconst 0, 1) := by decide +kernel
theorem dX11_statusB_26 : decode cX11_statusB 26 = .ok (.ior, 1) := by decide +kernel
theorem dX11_statusB_27 : decode cX11_statusB 27 = .ok (.aload_n 0, 1) := by decide +kernel
theorem dX11_statusB_28 : decode cX11_statusB 28 = .ok (.getfield 111, 3) := by decide +kernel
theorem dX11_statusB_31 : decode cX11_statusB 31 = .ok (.ifCond .eq 9, 3) := by decide +kernel
theorem dX11_statusB_34 : decode cX11_statusB 34 = .ok (.sipush 128, 3) := by decide +kernel
theorem dX11_statusB_37 : decode cX11_statusB 37 = .ok (.goto 4, 3) := by decide +kernel
theorem dX11_statusB_40 : decode cX11_statusB 40 = .ok (.iconst 0, 1) := by decide +kernel
theorem dX11_statusB_41 : decode cX11_statusB 41 = .ok (.ior, 1) := by decide +kernel
theorem dX11_statusB_42 : decode cX11_statusB 42 = .ok (.ireturn, 1) := by decide +kernel
theorem dX11_statusF_0 : decode cX11_statusF 0 = .ok (.sipush 128, 3) := by decide +kernel
theorem dX11_statusF_3 : decode cX11_statusF 3 = .ok (.aload_n 0, 1) := by decide +kernel
theorem dX11_statusF_4 : decode cX11_statusF 4 = .ok (.getfield 133, 3) := by decide +kernel
theorem dX11_statusF_7 : decode cX11_statusF 7 = .ok (.ifCond .eq 7, 3) := by decide +kernel
theorem dX11_statusF_10 : decode cX11_statusF 10 = .ok (.iconst 1, 1) := by decide +kernel
theorem dX11_statusF_11 : decode cX11_statusF 11 = .ok (.goto 4, 3) := by decide +kernel
theorem dX11_statusF_14 : decode cX11_statusF 14 = .ok (.iconst 0, 1) := by decide +kernel
theorem dX11_statusF_15 : decode cX11_statusF 15 = .ok (.ior, 1) := by decide +kernel
theorem dX11_statusF_16 : decode cX11_statusF 16 = .ok (.ireturn, 1) := by decide +kernel
theorem dX11_irqLine_0 : decode cX11_irqLine 0 = .ok (.aload_n 0, 1) := by decide +kernel
theorem dX11_irqLine_1 : decode cX11_irqLine 1 = .ok (.invokevirtual 175, 3) := by decide +kernel
theorem dX11_irqLine_4 : decode cX11_irqLine 4 = .ok (.aload_n 0, 1) := by decide +kernel
theorem dX11_irqLine_5 : decode cX11_irqLine 5 = .ok (.getfield 99, 3) := by decide +kernel
theorem dX11_irqLine_8 : decode cX11_irqLine 8 = .ok (.iand, 1) := by decide +kernel
theorem dX11_irqLine_9 : decode cX11_irqLine 9 = .ok (.ifCond .ne 15, 3) := by decide +kernel
theorem dX11_irqLine_12 : decode cX11_irqLine 12 = .ok (.aload_n 0, 1) := by decide +kernel
theorem dX11_irqLine_13 : decode cX11_irqLine 13 = .ok (.invokevirtual 178, 3) := by decide +kernel
theorem dX11_irqLine_16 : decode cX11_irqLine 16 = .ok (.aload_n 0, 1) := by decide +kernel
theorem dX11_irqLine_17 : decode cX11_irqLine 17 = .ok (.getfield 102, 3) := by decide +kernel
theorem dX11_irqLine_20 : decode cX11_irqLine 20 = .ok (.iand, 1) := by decide +kernel
theorem dX11_irqLine_21 : decode cX11_irqLine 21 = .ok (.ifCond .eq 7, 3) := by decide +kernel
theorem dX11_irqLine_24 : decode cX11_irqLine 24 = .ok (.iconst 1, 1) := by decide +kernel
theorem dX11_irqLine_25 : decode cX11_irqLine 25 = .ok (.goto 4, 3) := by decide +kernel
theorem dX11_irqLine_28 : decode cX11_irqLine 28 = .ok (.iconst 0, 1) := by decide +kernel
theorem dX11_irqLine_29 : decode cX11_irqLine 29 = .ok (.ireturn, 1) := by decide +kernel
theorem dX11_fiqLine_0 : decode cX11_fiqLine 0 = .ok (.aload_n 0, 1) := by decide +kernel
theorem dX11_fiqLine_1 : decode cX11_fiqLine 1 = .ok (.invokevirtual 181, 3) := by decide +kernel
theorem dX11_fiqLine_4 : decode cX11_fiqLine 4 = .ok (.aload_n 0, 1) := by decide +kernel
theorem dX11_fiqLine_5 : decode cX11_fiqLine 5 = .ok (.getfield 105, 3) := by decide +kernel
theorem dX11_fiqLine_8 : decode cX11_fiqLine 8 = .ok (.iand, 1) := by decide +kernel
theorem dX11_fiqLine_9 : decode cX11_fiqLine 9 = .ok (.ifCond .eq 7, 3) := by decide +kernel
theorem dX11_fiqLine_12 : decode cX11_fiqLine 12 = .ok (.iconst 1, 1) := by decide +kernel
theorem dX11_fiqLine_13 : decode cX11_fiqLine 13 = .ok (.goto 4, 3) := by decide +kernel
theorem dX11_fiqLine_16 : decode cX11_fiqLine 16 = .ok (.iconst 0, 1) := by decide +kernel
theorem dX11_fiqLine_17 : decode cX11_fiqLine 17 = .ok (.ireturn, 1) := by decide +kernel
theorem dX11_value_0 : decode cX11_value 0 = .ok (.iload_n 1, 1) := by decide +kernel
theorem dX11_value_1 : decode cX11_value 1 = .ok (.sipush 16384, 3) := by decide +kernel
theorem dX11_value_4 : decode cX11_value 4 = .ok (.if_icmp .ne 8, 3) := by decide +kernel
theorem dX11_value_7 : decode cX11_value 7 = .ok (.aload_n 0, 1) := by decide +kernel
theorem dX11_value_8 : decode cX11_value 8 = .ok (.getfield 118, 3) := by decide +kernel
theorem dX11_value_11 : decode cX11_value 11 = .ok (.ireturn, 1) := by decide +kernel
theorem dX11_value_12 : decode cX11_value 12 = .ok (.iload_n 1, 1) := by decide +kernel
theorem dX11_value_13 : decode cX11_value 13 = .ok (.sipush 16385, 3) := by decide +kernel
theorem dX11_value_16 : decode cX11_value 16 = .ok (.if_icmp .ne 8, 3) := by decide +kernel
theorem dX11_value_19 : decode cX11_value 19 = .ok (.aload_n 0, 1) := by decide +kernel
theorem dX11_value_20 : decode cX11_value 20 = .ok (.getfield 121, 3) := by decide +kernel
theorem dX11_value_23 : decode cX11_value 23 = .ok (.ireturn, 1) := by decide +kernel
theorem dX11_value_24 : decode cX11_value 24 = .ok (.iload_n 1, 1) := by decide +kernel
theorem dX11_value_25 : decode cX11_value 25 = .ok (.sipush 16386, 3) := by decide +kernel
theorem dX11_value_28 : decode cX11_value 28 = .ok (.if_icmp .ne 27, 3) := by decide +kernel
theorem dX11_value_31 : decode cX11_value 31 = .ok (.aload_n 0, 1) := by decide +kernel
theorem dX11_value_32 : decode cX11_value 32 = .ok (.getfield 124, 3) := by decide +kernel
theorem dX11_value_35 : decode cX11_value 35 = .ok (.ifCond .le 7, 3) := by decide +kernel
theorem dX11_value_38 : decode cX11_value 38 = .ok (.iconst 1, 1) := by decide +kernel
theorem dX11_value_39 : decode cX11_value 39 = .ok (.goto 15, 3) := by decide +kernel
theorem dX11_value_42 : decode cX11_value 42 = .ok (.aload_n 0, 1) := by decide +kernel
theorem dX11_value_43 : decode cX11_value 43 = .ok (.getfield 130, 3) := by decide +kernel
theorem dX11_value_46 : decode cX11_value 46 = .ok (.ifCond .eq 7, 3) := by decide +kernel
theorem dX11_value_49 : decode cX11_value 49 = .ok (.iconst 2, 1) := by decide +kernel
theorem dX11_value_50 : decode cX11_value 50 = .ok (.goto 4, 3) := by decide +kernel
theorem dX11_value_53 : decode cX11_value 53 = .ok (.iconst 0, 1) := by decide +kernel
theorem dX11_value_54 : decode cX11_value 54 = .ok (.ireturn, 1) := by decide +kernel
theorem dX11_value_55 : decode cX11_value 55 = .ok (.iload_n 1, 1) := by decide +kernel
theorem dX11_value_56 : decode cX11_value 56 = .ok (.ldc 184, 2) := by decide +kernel
theorem dX11_value_58 : decode cX11_value 58 = .ok (.isub, 1) := by decide +kernel
theorem dX11_value_59 : decode cX11_value 59 = .ok (.istore_n 2, 1) := by decide +kernel
theorem dX11_value_60 : decode cX11_value 60 = .ok (.iload_n 2, 1) := by decide +kernel
theorem dX11_value_61 : decode cX11_value 61 = .ok (.bipush 16, 2) := by decide +kernel
theorem dX11_value_63 : decode cX11_value 63 = .ok (.bipush 23, 2) := by decide +kernel
theorem dX11_value_65 : decode cX11_value 65 = .ok (.invokestatic 185, 3) := by decide +kernel
theorem dX11_value_68 : decode cX11_value 68 = .ok (.ifCond .eq 50, 3) := by decide +kernel
theorem dX11_value_71 : decode cX11_value 71 = .ok (.iload_n 2, 1) := by decide +kernel
theorem dX11_value_72 : decode cX11_value 72 = .ok (.bipush 16, 2) := by decide +kernel
theorem dX11_value_74 : decode cX11_value 74 = .ok (.isub, 1) := by decide +kernel
theorem dX11_value_75 : decode cX11_value 75 = .ok (.iconst 2, 1) := by decide +kernel
theorem dX11_value_76 : decode cX11_value 76 = .ok (.ishr, 1) := by decide +kernel
theorem dX11_value_77 : decode cX11_value 77 = .ok (.istore_n 3, 1) := by decide +kernel
theorem dX11_value_78 : decode cX11_value 78 = .ok (.iload_n 2, 1) := by decide +kernel
theorem dX11_value_79 : decode cX11_value 79 = .ok (.iconst 3, 1) := by decide +kernel
theorem dX11_value_80 : decode cX11_value 80 = .ok (.iand, 1) := by decide +kernel
theorem dX11_value_81 : decode cX11_value 81 = .ok (.ifCond .ne 16, 3) := by decide +kernel
theorem dX11_value_84 : decode cX11_value 84 = .ok (.aload_n 0, 1) := by decide +kernel
theorem dX11_value_85 : decode cX11_value 85 = .ok (.getfield 55, 3) := by decide +kernel
theorem dX11_value_88 : decode cX11_value 88 = .ok (.iload_n 3, 1) := by decide +kernel
theorem dX11_value_89 : decode cX11_value 89 = .ok (.iaload, 1) := by decide +kernel
theorem dX11_value_90 : decode cX11_value 90 = .ok (.sipush 255, 3) := by decide +kernel
theorem dX11_value_93 : decode cX11_value 93 = .ok (.iand, 1) := by decide +kernel
theorem dX11_value_94 : decode cX11_value 94 = .ok (.goto 23, 3) := by decide +kernel
theorem dX11_value_97 : decode cX11_value 97 = .ok (.iload_n 2, 1) := by decide +kernel
theorem dX11_value_98 : decode cX11_value 98 = .ok (.iconst 3, 1) := by decide +kernel
theorem dX11_value_99 : decode cX11_value 99 = .ok (.iand, 1) := by decide +kernel
theorem dX11_value_100 : decode cX11_value 100 = .ok (.iconst 1, 1) := by decide +kernel
theorem dX11_value_101 : decode cX11_value 101 = .ok (.if_icmp .ne 15, 3) := by decide +kernel
theorem dX11_value_104 : decode cX11_value 104 = .ok (.aload_n 0, 1) := by decide +kernel
theorem dX11_value_105 : decode cX11_value 105 = .ok (.getfield 55, 3) := by decide +kernel
theorem dX11_value_108 : decode cX11_value 108 = .ok (.iload_n 3, 1) := by decide +kernel
theorem dX11_value_109 : decode cX11_value 109 = .ok (.iaload, 1) := by decide +kernel
theorem dX11_value_110 : decode cX11_value 110 = .ok (.bipush 8, 2) := by decide +kernel
theorem dX11_value_112 : decode cX11_value 112 = .ok (.ishr, 1) := by decide +kernel
theorem dX11_value_113 : decode cX11_value 113 = .ok (.goto 4, 3) := by decide +kernel
theorem dX11_value_116 : decode cX11_value 116 = .ok (.iconst 0, 1) := by decide +kernel
theorem dX11_value_117 : decode cX11_value 117 = .ok (.ireturn, 1) := by decide +kernel
theorem dX11_value_118 : decode cX11_value 118 = .ok (.iload_n 2, 1) := by decide +kernel
theorem dX11_value_119 : decode cX11_value 119 = .ok (.tableswitch 134 1 14 #[69, 134, 134, 74, 79, 89, 134, 94, 99, 109, 134, 114, 119, 129], 69) := by decide +kernel
theorem dX11_value_188 : decode cX11_value 188 = .ok (.aload_n 0, 1) := by decide +kernel
theorem dX11_value_189 : decode cX11_value 189 = .ok (.getfield 108, 3) := by decide +kernel
theorem dX11_value_192 : decode cX11_value 192 = .ok (.ireturn, 1) := by decide +kernel
theorem dX11_value_193 : decode cX11_value 193 = .ok (.aload_n 0, 1) := by decide +kernel
theorem dX11_value_194 : decode cX11_value 194 = .ok (.invokevirtual 175, 3) := by decide +kernel
theorem dX11_value_197 : decode cX11_value 197 = .ok (.ireturn, 1) := by decide +kernel
theorem dX11_value_198 : decode cX11_value 198 = .ok (.aload_n 0, 1) := by decide +kernel
theorem dX11_value_199 : decode cX11_value 199 = .ok (.invokevirtual 175, 3) := by decide +kernel
theorem dX11_value_202 : decode cX11_value 202 = .ok (.aload_n 0, 1) := by decide +kernel
theorem dX11_value_203 : decode cX11_value 203 = .ok (.getfield 99, 3) := by decide +kernel
theorem dX11_value_206 : decode cX11_value 206 = .ok (.iand, 1) := by decide +kernel
theorem dX11_value_207 : decode cX11_value 207 = .ok (.ireturn, 1) := by decide +kernel
theorem dX11_value_208 : decode cX11_value 208 = .ok (.aload_n 0, 1) := by decide +kernel
theorem dX11_value_209 : decode cX11_value 209 = .ok (.getfield 99, 3) := by decide +kernel
theorem dX11_value_212 : decode cX11_value 212 = .ok (.ireturn, 1) := by decide +kernel
theorem dX11_value_213 : decode cX11_value 213 = .ok (.aload_n 0, 1) := by decide +kernel
theorem dX11_value_214 : decode cX11_value 214 = .ok (.invokevirtual 178, 3) := by decide +kernel
theorem dX11_value_217 : decode cX11_value 217 = .ok (.ireturn, 1) := by decide +kernel
theorem dX11_value_218 : decode cX11_value 218 = .ok (.aload_n 0, 1) := by decide +kernel
theorem dX11_value_219 : decode cX11_value 219 = .ok (.invokevirtual 178, 3) := by decide +kernel
theorem dX11_value_222 : decode cX11_value 222 = .ok (.aload_n 0, 1) := by decide +kernel
theorem dX11_value_223 : decode cX11_value 223 = .ok (.getfield 102, 3) := by decide +kernel
theorem dX11_value_226 : decode cX11_value 226 = .ok (.iand, 1) := by decide +kernel
theorem dX11_value_227 : decode cX11_value 227 = .ok (.ireturn, 1) := by decide +kernel
theorem dX11_value_228 : decode cX11_value 228 = .ok (.aload_n 0, 1) := by decide +kernel
theorem dX11_value_229 : decode cX11_value 229 = .ok (.getfield 102, 3) := by decide +kernel
theorem dX11_value_232 : decode cX11_value 232 = .ok (.ireturn, 1) := by decide +kernel
theorem dX11_value_233 : decode cX11_value 233 = .ok (.aload_n 0, 1) := by decide +kernel
theorem dX11_value_234 : decode cX11_value 234 = .ok (.invokevirtual 181, 3) := by decide +kernel
theorem dX11_value_237 : decode cX11_value 237 = .ok (.ireturn, 1) := by decide +kernel
theorem dX11_value_238 : decode cX11_value 238 = .ok (.aload_n 0, 1) := by decide +kernel
theorem dX11_value_239 : decode cX11_value 239 = .ok (.invokevirtual 181, 3) := by decide +kernel
theorem dX11_value_242 : decode cX11_value 242 = .ok (.aload_n 0, 1) := by decide +kernel
theorem dX11_value_243 : decode cX11_value 243 = .ok (.getfield 105, 3) := by decide +kernel
theorem dX11_value_246 : decode cX11_value 246 = .ok (.iand, 1) := by decide +kernel
theorem dX11_value_247 : decode cX11_value 247 = .ok (.ireturn, 1) := by decide +kernel
theorem dX11_value_248 : decode cX11_value 248 = .ok (.aload_n 0, 1) := by decide +kernel
theorem dX11_value_249 : decode cX11_value 249 = .ok (.getfield 105, 3) := by decide +kernel
theorem dX11_value_252 : decode cX11_value 252 = .ok (.ireturn, 1) := by decide +kernel
theorem dX11_value_253 : decode cX11_value 253 = .ok (.iconst 0, 1) := by decide +kernel
theorem dX11_value_254 : decode cX11_value 254 = .ok (.ireturn, 1) := by decide +kernel
theorem dX11_writeDevice_0 : decode cX11_writeDevice 0 = .ok (.iload_n 1, 1) := by decide +kernel
theorem dX11_writeDevice_1 : decode cX11_writeDevice 1 = .ok (.sipush 16384, 3) := by decide +kernel
theorem dX11_writeDevice_4 : decode cX11_writeDevice 4 = .ok (.if_icmp .ne 8, 3) := by decide +kernel
theorem dX11_writeDevice_7 : decode cX11_writeDevice 7 = .ok (.aload_n 0, 1) := by decide +kernel
theorem dX11_writeDevice_8 : decode cX11_writeDevice 8 = .ok (.iload_n 2, 1) := by decide +kernel
theorem dX11_writeDevice_9 : decode cX11_writeDevice 9 = .ok (.putfield 118, 3) := by decide +kernel
theorem dX11_writeDevice_12 : decode cX11_writeDevice 12 = .ok (.iload_n 1, 1) := by decide +kernel
theorem dX11_writeDevice_13 : decode cX11_writeDevice 13 = .ok (.sipush 16385, 3) := by decide +kernel
theorem dX11_writeDevice_16 : decode cX11_writeDevice 16 = .ok (.if_icmp .ne 8, 3) := by decide +kernel
theorem dX11_writeDevice_19 : decode cX11_writeDevice 19 = .ok (.aload_n 0, 1) := by decide +kernel
theorem dX11_writeDevice_20 : decode cX11_writeDevice 20 = .ok (.iload_n 2, 1) := by decide +kernel
theorem dX11_writeDevice_21 : decode cX11_writeDevice 21 = .ok (.putfield 121, 3) := by decide +kernel
theorem dX11_writeDevice_24 : decode cX11_writeDevice 24 = .ok (.iload_n 1, 1) := by decide +kernel
theorem dX11_writeDevice_25 : decode cX11_writeDevice 25 = .ok (.sipush 16386, 3) := by decide +kernel
theorem dX11_writeDevice_28 : decode cX11_writeDevice 28 = .ok (.if_icmp .ne 8, 3) := by decide +kernel
theorem dX11_writeDevice_31 : decode cX11_writeDevice 31 = .ok (.aload_n 0, 1) := by decide +kernel
theorem dX11_writeDevice_32 : decode cX11_writeDevice 32 = .ok (.iload_n 2, 1) := by decide +kernel
theorem dX11_writeDevice_33 : decode cX11_writeDevice 33 = .ok (.invokevirtual 189, 3) := by decide +kernel
theorem dX11_writeDevice_36 : decode cX11_writeDevice 36 = .ok (.iload_n 1, 1) := by decide +kernel
theorem dX11_writeDevice_37 : decode cX11_writeDevice 37 = .ok (.ldc 184, 2) := by decide +kernel
theorem dX11_writeDevice_39 : decode cX11_writeDevice 39 = .ok (.isub, 1) := by decide +kernel
theorem dX11_writeDevice_40 : decode cX11_writeDevice 40 = .ok (.istore_n 3, 1) := by decide +kernel
theorem dX11_writeDevice_41 : decode cX11_writeDevice 41 = .ok (.iload_n 3, 1) := by decide +kernel
theorem dX11_writeDevice_42 : decode cX11_writeDevice 42 = .ok (.bipush 16, 2) := by decide +kernel
theorem dX11_writeDevice_44 : decode cX11_writeDevice 44 = .ok (.bipush 23, 2) := by decide +kernel
theorem dX11_writeDevice_46 : decode cX11_writeDevice 46 = .ok (.invokestatic 185, 3) := by decide +kernel
theorem dX11_writeDevice_49 : decode cX11_writeDevice 49 = .ok (.ifCond .eq 17, 3) := by decide +kernel
theorem dX11_writeDevice_52 : decode cX11_writeDevice 52 = .ok (.aload_n 0, 1) := by decide +kernel
theorem dX11_writeDevice_53 : decode cX11_writeDevice 53 = .ok (.iload_n 3, 1) := by decide +kernel
theorem dX11_writeDevice_54 : decode cX11_writeDevice 54 = .ok (.bipush 16, 2) := by decide +kernel
theorem dX11_writeDevice_56 : decode cX11_writeDevice 56 = .ok (.isub, 1) := by decide +kernel
theorem dX11_writeDevice_57 : decode cX11_writeDevice 57 = .ok (.iconst 2, 1) := by decide +kernel
theorem dX11_writeDevice_58 : decode cX11_writeDevice 58 = .ok (.ishr, 1) := by decide +kernel
theorem dX11_writeDevice_59 : decode cX11_writeDevice 59 = .ok (.iload_n 3, 1) := by decide +kernel
theorem dX11_writeDevice_60 : decode cX11_writeDevice 60 = .ok (.iconst 3, 1) := by decide +kernel
theorem dX11_writeDevice_61 : decode cX11_writeDevice 61 = .ok (.iand, 1) := by decide +kernel
theorem dX11_writeDevice_62 : decode cX11_writeDevice 62 = .ok (.iload_n 2, 1) := by decide +kernel
theorem dX11_writeDevice_63 : decode cX11_writeDevice 63 = .ok (.invokevirtual 193, 3) := by decide +kernel
theorem dX11_writeDevice_66 : decode cX11_writeDevice 66 = .ok (.iload_n 3, 1) := by decide +kernel
theorem dX11_writeDevice_67 : decode cX11_writeDevice 67 = .ok (.iconst 1, 1) := by decide +kernel
theorem dX11_writeDevice_68 : decode cX11_writeDevice 68 = .ok (.if_icmp .ne 36, 3) := by decide +kernel
theorem dX11_writeDevice_71 : decode cX11_writeDevice 71 = .ok (.aload_n 0, 1) := by decide +kernel
theorem dX11_writeDevice_72 : decode cX11_writeDevice 72 = .ok (.getfield 58, 3) := by decide +kernel
theorem dX11_writeDevice_75 : decode cX11_writeDevice 75 = .ok (.aload_n 0, 1) := by decide +kernel
theorem dX11_writeDevice_76 : decode cX11_writeDevice 76 = .ok (.getfield 197, 3) := by decide +kernel
theorem dX11_writeDevice_79 : decode cX11_writeDevice 79 = .ok (.ldc2_w 200, 3) := by decide +kernel
theorem dX11_writeDevice_82 : decode cX11_writeDevice 82 = .ok (.lrem, 1) := by decide +kernel
theorem dX11_writeDevice_83 : decode cX11_writeDevice 83 = .ok (.l2i, 1) := by decide +kernel
theorem dX11_writeDevice_84 : decode cX11_writeDevice 84 = .ok (.iload_n 2, 1) := by decide +kernel
theorem dX11_writeDevice_85 : decode cX11_writeDevice 85 = .ok (.i2b, 1) := by decide +kernel
theorem dX11_writeDevice_86 : decode cX11_writeDevice 86 = .ok (.bastore, 1) := by decide +kernel
theorem dX11_writeDevice_87 : decode cX11_writeDevice 87 = .ok (.aload_n 0, 1) := by decide +kernel
theorem dX11_writeDevice_88 : decode cX11_writeDevice 88 = .ok (.dup, 1) := by decide +kernel
theorem dX11_writeDevice_89 : decode cX11_writeDevice 89 = .ok (.getfield 197, 3) := by decide +kernel
theorem dX11_writeDevice_92 : decode cX11_writeDevice 92 = .ok (.lconst 1, 1) := by decide +kernel
theorem dX11_writeDevice_93 : decode cX11_writeDevice 93 = .ok (.ladd, 1) := by decide +kernel
theorem dX11_writeDevice_94 : decode cX11_writeDevice 94 = .ok (.putfield 197, 3) := by decide +kernel
theorem dX11_writeDevice_97 : decode cX11_writeDevice 97 = .ok (.aload_n 0, 1) := by decide +kernel
theorem dX11_writeDevice_98 : decode cX11_writeDevice 98 = .ok (.sipush 256, 3) := by decide +kernel
theorem dX11_writeDevice_101 : decode cX11_writeDevice 101 = .ok (.putfield 115, 3) := by decide +kernel
theorem dX11_writeDevice_104 : decode cX11_writeDevice 104 = .ok (.iload_n 3, 1) := by decide +kernel
theorem dX11_writeDevice_105 : decode cX11_writeDevice 105 = .ok (.iconst 5, 1) := by decide +kernel
theorem dX11_writeDevice_106 : decode cX11_writeDevice 106 = .ok (.if_icmp .ne 75, 3) := by decide +kernel
theorem dX11_writeDevice_109 : decode cX11_writeDevice 109 = .ok (.aload_n 0, 1) := by decide +kernel
theorem dX11_writeDevice_110 : decode cX11_writeDevice 110 = .ok (.iload_n 2, 1) := by decide +kernel
theorem dX11_writeDevice_111 : decode cX11_writeDevice 111 = .ok (.iconst 3, 1) := by decide +kernel
theorem dX11_writeDevice_112 : decode cX11_writeDevice 112 = .ok (.ishr, 1) := by decide +kernel
theorem dX11_writeDevice_113 : decode cX11_writeDevice 113 = .ok (.iconst 1, 1) := by decide +kernel
theorem dX11_writeDevice_114 : decode cX11_writeDevice 114 = .ok (.iand, 1) := by decide +kernel
theorem dX11_writeDevice_115 : decode cX11_writeDevice 115 = .ok (.iconst 1, 1) := by decide +kernel
theorem dX11_writeDevice_116 : decode cX11_writeDevice 116 = .ok (.if_icmp .ne 7, 3) := by decide +kernel
theorem dX11_writeDevice_119 : decode cX11_writeDevice 119 = .ok (.iconst 0, 1) := by decide +kernel
theorem dX11_writeDevice_120 : decode cX11_writeDevice 120 = .ok (.goto 7, 3) := by decide +kernel
theorem dX11_writeDevice_123 : decode cX11_writeDevice 123 = .ok (.aload_n 0, 1) := by decide +kernel
theorem dX11_writeDevice_124 : decode cX11_writeDevice 124 = .ok (.getfield 96, 3) := by decide +kernel
theorem dX11_writeDevice_127 : decode cX11_writeDevice 127 = .ok (.putfield 96, 3) := by decide +kernel
theorem dX11_writeDevice_130 : decode cX11_writeDevice 130 = .ok (.aload_n 0, 1) := by decide +kernel
theorem dX11_writeDevice_131 : decode cX11_writeDevice 131 = .ok (.getfield 46, 3) := by decide +kernel
theorem dX11_writeDevice_134 : decode cX11_writeDevice 134 = .ok (.iconst 0, 1) := by decide +kernel
theorem dX11_writeDevice_135 : decode cX11_writeDevice 135 = .ok (.iload_n 2, 1) := by decide +kernel
theorem dX11_writeDevice_136 : decode cX11_writeDevice 136 = .ok (.iconst 5, 1) := by decide +kernel
theorem dX11_writeDevice_137 : decode cX11_writeDevice 137 = .ok (.ishr, 1) := by decide +kernel
theorem dX11_writeDevice_138 : decode cX11_writeDevice 138 = .ok (.iconst 1, 1) := by decide +kernel
theorem dX11_writeDevice_139 : decode cX11_writeDevice 139 = .ok (.iand, 1) := by decide +kernel
theorem dX11_writeDevice_140 : decode cX11_writeDevice 140 = .ok (.iconst 1, 1) := by decide +kernel
theorem dX11_writeDevice_141 : decode cX11_writeDevice 141 = .ok (.if_icmp .ne 7, 3) := by decide +kernel
theorem dX11_writeDevice_144 : decode cX11_writeDevice 144 = .ok (.iconst 0, 1) := by decide +kernel
theorem dX11_writeDevice_145 : decode cX11_writeDevice 145 = .ok (.goto 9, 3) := by decide +kernel
theorem dX11_writeDevice_148 : decode cX11_writeDevice 148 = .ok (.aload_n 0, 1) := by decide +kernel
theorem dX11_writeDevice_149 : decode cX11_writeDevice 149 = .ok (.getfield 46, 3) := by decide +kernel
theorem dX11_writeDevice_152 : decode cX11_writeDevice 152 = .ok (.iconst 0, 1) := by decide +kernel
theorem dX11_writeDevice_153 : decode cX11_writeDevice 153 = .ok (.iaload, 1) := by decide +kernel
theorem dX11_writeDevice_154 : decode cX11_writeDevice 154 = .ok (.iastore, 1) := by decide +kernel
theorem dX11_writeDevice_155 : decode cX11_writeDevice 155 = .ok (.aload_n 0, 1) := by decide +kernel
theorem dX11_writeDevice_156 : decode cX11_writeDevice 156 = .ok (.getfield 46, 3) := by decide +kernel
theorem dX11_writeDevice_159 : decode cX11_writeDevice 159 = .ok (.iconst 1, 1) := by decide +kernel
theorem dX11_writeDevice_160 : decode cX11_writeDevice 160 = .ok (.iload_n 2, 1) := by decide +kernel
theorem dX11_writeDevice_161 : decode cX11_writeDevice 161 = .ok (.bipush 6, 2) := by decide +kernel
theorem dX11_writeDevice_163 : decode cX11_writeDevice 163 = .ok (.ishr, 1) := by decide +kernel
theorem dX11_writeDevice_164 : decode cX11_writeDevice 164 = .ok (.iconst 1, 1) := by decide +kernel
theorem dX11_writeDevice_165 : decode cX11_writeDevice 165 = .ok (.iand, 1) := by decide +kernel
theorem dX11_writeDevice_166 : decode cX11_writeDevice 166 = .ok (.iconst 1, 1) := by decide +kernel
theorem dX11_writeDevice_167 : decode cX11_writeDevice 167 = .ok (.if_icmp .ne 7, 3) := by decide +kernel
theorem dX11_writeDevice_170 : decode cX11_writeDevice 170 = .ok (.iconst 0, 1) := by decide +kernel
theorem dX11_writeDevice_171 : decode cX11_writeDevice 171 = .ok (.goto 9, 3) := by decide +kernel
theorem dX11_writeDevice_174 : decode cX11_writeDevice 174 = .ok (.aload_n 0, 1) := by decide +kernel
theorem dX11_writeDevice_175 : decode cX11_writeDevice 175 = .ok (.getfield 46, 3) := by decide +kernel
theorem dX11_writeDevice_178 : decode cX11_writeDevice 178 = .ok (.iconst 1, 1) := by decide +kernel
theorem dX11_writeDevice_179 : decode cX11_writeDevice 179 = .ok (.iaload, 1) := by decide +kernel
theorem dX11_writeDevice_180 : decode cX11_writeDevice 180 = .ok (.iastore, 1) := by decide +kernel
theorem dX11_writeDevice_181 : decode cX11_writeDevice 181 = .ok (.iload_n 3, 1) := by decide +kernel
theorem dX11_writeDevice_182 : decode cX11_writeDevice 182 = .ok (.bipush 6, 2) := by decide +kernel
theorem dX11_writeDevice_184 : decode cX11_writeDevice 184 = .ok (.if_icmp .ne 8, 3) := by decide +kernel
theorem dX11_writeDevice_187 : decode cX11_writeDevice 187 = .ok (.aload_n 0, 1) := by decide +kernel
theorem dX11_writeDevice_188 : decode cX11_writeDevice 188 = .ok (.iload_n 2, 1) := by decide +kernel
theorem dX11_writeDevice_189 : decode cX11_writeDevice 189 = .ok (.putfield 99, 3) := by decide +kernel
theorem dX11_writeDevice_192 : decode cX11_writeDevice 192 = .ok (.iload_n 3, 1) := by decide +kernel
theorem dX11_writeDevice_193 : decode cX11_writeDevice 193 = .ok (.bipush 10, 2) := by decide +kernel
theorem dX11_writeDevice_195 : decode cX11_writeDevice 195 = .ok (.if_icmp .ne 8, 3) := by decide +kernel
theorem dX11_writeDevice_198 : decode cX11_writeDevice 198 = .ok (.aload_n 0, 1) := by decide +kernel
theorem dX11_writeDevice_199 : decode cX11_writeDevice 199 = .ok (.iload_n 2, 1) := by decide +kernel
theorem dX11_writeDevice_200 : decode cX11_writeDevice 200 = .ok (.putfield 102, 3) := by decide +kernel
theorem dX11_writeDevice_203 : decode cX11_writeDevice 203 = .ok (.iload_n 3, 1) := by decide +kernel
theorem dX11_writeDevice_204 : decode cX11_writeDevice 204 = .ok (.bipush 14, 2) := by decide +kernel
theorem dX11_writeDevice_206 : decode cX11_writeDevice 206 = .ok (.if_icmp .ne 8, 3) := by decide +kernel
theorem dX11_writeDevice_209 : decode cX11_writeDevice 209 = .ok (.aload_n 0, 1) := by decide +kernel
theorem dX11_writeDevice_210 : decode cX11_writeDevice 210 = .ok (.iload_n 2, 1) := by decide +kernel
theorem dX11_writeDevice_211 : decode cX11_writeDevice 211 = .ok (.putfield 105, 3) := by decide +kernel
theorem dX11_writeDevice_214 : decode cX11_writeDevice 214 = .ok (.return_, 1) := by decide +kernel
theorem dX11_timer_0 : decode cX11_timer 0 = .ok (.iload_n 2, 1) := by decide +kernel
theorem dX11_timer_1 : decode cX11_timer 1 = .ok (.ifCond .ne 20, 3) := by decide +kernel
theorem dX11_timer_4 : decode cX11_timer 4 = .ok (.aload_n 0, 1) := by decide +kernel
theorem dX11_timer_5 : decode cX11_timer 5 = .ok (.getfield 49, 3) := by decide +kernel
theorem dX11_timer_8 : decode cX11_timer 8 = .ok (.iload_n 1, 1) := by decide +kernel
theorem dX11_timer_9 : decode cX11_timer 9 = .ok (.aload_n 0, 1) := by decide +kernel
theorem dX11_timer_10 : decode cX11_timer 10 = .ok (.getfield 49, 3) := by decide +kernel
theorem dX11_timer_13 : decode cX11_timer 13 = .ok (.iload_n 1, 1) := by decide +kernel
theorem dX11_timer_14 : decode cX11_timer 14 = .ok (.iaload, 1) := by decide +kernel
theorem dX11_timer_15 : decode cX11_timer 15 = .ok (.ldc 202, 2) := by decide +kernel
theorem dX11_timer_17 : decode cX11_timer 17 = .ok (.iand, 1) := by decide +kernel
theorem dX11_timer_18 : decode cX11_timer 18 = .ok (.iload_n 3, 1) := by decide +kernel
theorem dX11_timer_19 : decode cX11_timer 19 = .ok (.ior, 1) := by decide +kernel
theorem dX11_timer_20 : decode cX11_timer 20 = .ok (.iastore, 1) := by decide +kernel
theorem dX11_timer_21 : decode cX11_timer 21 = .ok (.iload_n 2, 1) := by decide +kernel
theorem dX11_timer_22 : decode cX11_timer 22 = .ok (.iconst 1, 1) := by decide +kernel
theorem dX11_timer_23 : decode cX11_timer 23 = .ok (.if_icmp .ne 24, 3) := by decide +kernel
theorem dX11_timer_26 : decode cX11_timer 26 = .ok (.aload_n 0, 1) := by decide +kernel
theorem dX11_timer_27 : decode cX11_timer 27 = .ok (.getfield 49, 3) := by decide +kernel
theorem dX11_timer_30 : decode cX11_timer 30 = .ok (.iload_n 1, 1) := by decide +kernel
theorem dX11_timer_31 : decode cX11_timer 31 = .ok (.aload_n 0, 1) := by decide +kernel
theorem dX11_timer_32 : decode cX11_timer 32 = .ok (.getfield 49, 3) := by decide +kernel
theorem dX11_timer_35 : decode cX11_timer 35 = .ok (.iload_n 1, 1) := by decide +kernel
theorem dX11_timer_36 : decode cX11_timer 36 = .ok (.iaload, 1) := by decide +kernel
theorem dX11_timer_37 : decode cX11_timer 37 = .ok (.sipush 255, 3) := by decide +kernel
theorem dX11_timer_40 : decode cX11_timer 40 = .ok (.iand, 1) := by decide +kernel
theorem dX11_timer_41 : decode cX11_timer 41 = .ok (.iload_n 3, 1) := by decide +kernel
theorem dX11_timer_42 : decode cX11_timer 42 = .ok (.bipush 8, 2) := by decide +kernel
theorem dX11_timer_44 : decode cX11_timer 44 = .ok (.ishl, 1) := by decide +kernel
theorem dX11_timer_45 : decode cX11_timer 45 = .ok (.ior, 1) := by decide +kernel
theorem dX11_timer_46 : decode cX11_timer 46 = .ok (.iastore, 1) := by decide +kernel
theorem dX11_timer_47 : decode cX11_timer 47 = .ok (.iload_n 2, 1) := by decide +kernel
theorem dX11_timer_48 : decode cX11_timer 48 = .ok (.iconst 2, 1) := by decide +kernel
theorem dX11_timer_49 : decode cX11_timer 49 = .ok (.if_icmp .ne 15, 3) := by decide +kernel
theorem dX11_timer_52 : decode cX11_timer 52 = .ok (.aload_n 0, 1) := by decide +kernel
theorem dX11_timer_53 : decode cX11_timer 53 = .ok (.getfield 52, 3) := by decide +kernel
theorem dX11_timer_56 : decode cX11_timer 56 = .ok (.iload_n 1, 1) := by decide +kernel
theorem dX11_timer_57 : decode cX11_timer 57 = .ok (.aload_n 0, 1) := by decide +kernel
theorem dX11_timer_58 : decode cX11_timer 58 = .ok (.getfield 49, 3) := by decide +kernel
theorem dX11_timer_61 : decode cX11_timer 61 = .ok (.iload_n 1, 1) := by decide +kernel
theorem dX11_timer_62 : decode cX11_timer 62 = .ok (.iaload, 1) := by decide +kernel
theorem dX11_timer_63 : decode cX11_timer 63 = .ok (.iastore, 1) := by decide +kernel
theorem dX11_timer_64 : decode cX11_timer 64 = .ok (.iload_n 2, 1) := by decide +kernel
theorem dX11_timer_65 : decode cX11_timer 65 = .ok (.iconst 3, 1) := by decide +kernel
theorem dX11_timer_66 : decode cX11_timer 66 = .ok (.if_icmp .ne 15, 3) := by decide +kernel
theorem dX11_timer_69 : decode cX11_timer 69 = .ok (.aload_n 0, 1) := by decide +kernel
theorem dX11_timer_70 : decode cX11_timer 70 = .ok (.getfield 55, 3) := by decide +kernel
theorem dX11_timer_73 : decode cX11_timer 73 = .ok (.iload_n 1, 1) := by decide +kernel
theorem dX11_timer_74 : decode cX11_timer 74 = .ok (.aload_n 0, 1) := by decide +kernel
theorem dX11_timer_75 : decode cX11_timer 75 = .ok (.getfield 52, 3) := by decide +kernel
theorem dX11_timer_78 : decode cX11_timer 78 = .ok (.iload_n 1, 1) := by decide +kernel
theorem dX11_timer_79 : decode cX11_timer 79 = .ok (.iaload, 1) := by decide +kernel
theorem dX11_timer_80 : decode cX11_timer 80 = .ok (.iastore, 1) := by decide +kernel
theorem dX11_timer_81 : decode cX11_timer 81 = .ok (.return_, 1) := by decide +kernel
theorem dX11_disk_0 : decode cX11_disk 0 = .ok (.aload_n 0, 1) := by decide +kernel
theorem dX11_disk_1 : decode cX11_disk 1 = .ok (.getfield 124, 3) := by decide +kernel
theorem dX11_disk_4 : decode cX11_disk 4 = .ok (.ifCond .le 4, 3) := by decide +kernel
theorem dX11_disk_7 : decode cX11_disk 7 = .ok (.return_, 1) := by decide +kernel
theorem dX11_disk_8 : decode cX11_disk 8 = .ok (.aload_n 0, 1) := by decide +kernel
theorem dX11_disk_9 : decode cX11_disk 9 = .ok (.iload_n 1, 1) := by decide +kernel
theorem dX11_disk_10 : decode cX11_disk 10 = .ok (.iconst 1, 1) := by decide +kernel
theorem dX11_disk_11 : decode cX11_disk 11 = .ok (.if_icmp .eq 8, 3) := by decide +kernel
theorem dX11_disk_14 : decode cX11_disk 14 = .ok (.iload_n 1, 1) := by decide +kernel
theorem dX11_disk_15 : decode cX11_disk 15 = .ok (.iconst 2, 1) := by decide +kernel
theorem dX11_disk_16 : decode cX11_disk 16 = .ok (.if_icmp .ne 21, 3) := by decide +kernel
theorem dX11_disk_19 : decode cX11_disk 19 = .ok (.aload_n 0, 1) := by decide +kernel
theorem dX11_disk_20 : decode cX11_disk 20 = .ok (.getfield 118, 3) := by decide +kernel
theorem dX11_disk_23 : decode cX11_disk 23 = .ok (.bipush 15, 2) := by decide +kernel
theorem dX11_disk_25 : decode cX11_disk 25 = .ok (.if_icmp .gt 12, 3) := by decide +kernel
theorem dX11_disk_28 : decode cX11_disk 28 = .ok (.aload_n 0, 1) := by decide +kernel
theorem dX11_disk_29 : decode cX11_disk 29 = .ok (.getfield 121, 3) := by decide +kernel
theorem dX11_disk_32 : decode cX11_disk 32 = .ok (.bipush 15, 2) := by decide +kernel
theorem dX11_disk_34 : decode cX11_disk 34 = .ok (.if_icmp .le 7, 3) := by decide +kernel
theorem dX11_disk_37 : decode cX11_disk 37 = .ok (.iconst 1, 1) := by decide +kernel
theorem dX11_disk_38 : decode cX11_disk 38 = .ok (.goto 4, 3) := by decide +kernel
theorem dX11_disk_41 : decode cX11_disk 41 = .ok (.iconst 0, 1) := by decide +kernel
theorem dX11_disk_42 : decode cX11_disk 42 = .ok (.putfield 130, 3) := by decide +kernel
theorem dX11_disk_45 : decode cX11_disk 45 = .ok (.aload_n 0, 1) := by decide +kernel
theorem dX11_disk_46 : decode cX11_disk 46 = .ok (.getfield 130, 3) := by decide +kernel
theorem dX11_disk_49 : decode cX11_disk 49 = .ok (.ifCond .eq 9, 3) := by decide +kernel
theorem dX11_disk_52 : decode cX11_disk 52 = .ok (.aload_n 0, 1) := by decide +kernel
theorem dX11_disk_53 : decode cX11_disk 53 = .ok (.iconst 1, 1) := by decide +kernel
theorem dX11_disk_54 : decode cX11_disk 54 = .ok (.putfield 133, 3) := by decide +kernel
theorem dX11_disk_57 : decode cX11_disk 57 = .ok (.return_, 1) := by decide +kernel
theorem dX11_disk_58 : decode cX11_disk 58 = .ok (.aload_n 0, 1) := by decide +kernel
theorem dX11_disk_59 : decode cX11_disk 59 = .ok (.sipush 5000, 3) := by decide +kernel
theorem dX11_disk_62 : decode cX11_disk 62 = .ok (.putfield 124, 3) := by decide +kernel
theorem dX11_disk_65 : decode cX11_disk 65 = .ok (.aload_n 0, 1) := by decide +kernel
theorem dX11_disk_66 : decode cX11_disk 66 = .ok (.iload_n 1, 1) := by decide +kernel
theorem dX11_disk_67 : decode cX11_disk 67 = .ok (.putfield 127, 3) := by decide +kernel
theorem dX11_disk_70 : decode cX11_disk 70 = .ok (.aload_n 0, 1) := by decide +kernel
theorem dX11_disk_71 : decode cX11_disk 71 = .ok (.aload_n 0, 1) := by decide +kernel
theorem dX11_disk_72 : decode cX11_disk 72 = .ok (.getfield 118, 3) := by decide +kernel
theorem dX11_disk_75 : decode cX11_disk 75 = .ok (.putfield 203, 3) := by decide +kernel
theorem dX11_disk_78 : decode cX11_disk 78 = .ok (.aload_n 0, 1) := by decide +kernel
theorem dX11_disk_79 : decode cX11_disk 79 = .ok (.aload_n 0, 1) := by decide +kernel
theorem dX11_disk_80 : decode cX11_disk 80 = .ok (.getfield 121, 3) := by decide +kernel
theorem dX11_disk_83 : decode cX11_disk 83 = .ok (.putfield 206, 3) := by decide +kernel
theorem dX11_disk_86 : decode cX11_disk 86 = .ok (.return_, 1) := by decide +kernel
theorem dX11_copy_0 : decode cX11_copy 0 = .ok (.iconst 0, 1) := by decide +kernel
theorem dX11_copy_1 : decode cX11_copy 1 = .ok (.istore_n 1, 1) := by decide +kernel
theorem dX11_copy_2 : decode cX11_copy 2 = .ok (.iload_n 1, 1) := by decide +kernel
theorem dX11_copy_3 : decode cX11_copy 3 = .ok (.sipush 1024, 3) := by decide +kernel
theorem dX11_copy_6 : decode cX11_copy 6 = .ok (.if_icmp .ge 66, 3) := by decide +kernel
theorem dX11_copy_9 : decode cX11_copy 9 = .ok (.sipush 1024, 3) := by decide +kernel
theorem dX11_copy_12 : decode cX11_copy 12 = .ok (.aload_n 0, 1) := by decide +kernel
theorem dX11_copy_13 : decode cX11_copy 13 = .ok (.getfield 206, 3) := by decide +kernel
theorem dX11_copy_16 : decode cX11_copy 16 = .ok (.imul, 1) := by decide +kernel
theorem dX11_copy_17 : decode cX11_copy 17 = .ok (.iload_n 1, 1) := by decide +kernel
theorem dX11_copy_18 : decode cX11_copy 18 = .ok (.iadd, 1) := by decide +kernel
theorem dX11_copy_19 : decode cX11_copy 19 = .ok (.istore_n 2, 1) := by decide +kernel
theorem dX11_copy_20 : decode cX11_copy 20 = .ok (.sipush 1024, 3) := by decide +kernel
theorem dX11_copy_23 : decode cX11_copy 23 = .ok (.aload_n 0, 1) := by decide +kernel
theorem dX11_copy_24 : decode cX11_copy 24 = .ok (.getfield 203, 3) := by decide +kernel
theorem dX11_copy_27 : decode cX11_copy 27 = .ok (.imul, 1) := by decide +kernel
theorem dX11_copy_28 : decode cX11_copy 28 = .ok (.iload_n 1, 1) := by decide +kernel
theorem dX11_copy_29 : decode cX11_copy 29 = .ok (.iadd, 1) := by decide +kernel
theorem dX11_copy_30 : decode cX11_copy 30 = .ok (.istore_n 3, 1) := by decide +kernel
theorem dX11_copy_31 : decode cX11_copy 31 = .ok (.aload_n 0, 1) := by decide +kernel
theorem dX11_copy_32 : decode cX11_copy 32 = .ok (.getfield 127, 3) := by decide +kernel
theorem dX11_copy_35 : decode cX11_copy 35 = .ok (.iconst 1, 1) := by decide +kernel
theorem dX11_copy_36 : decode cX11_copy 36 = .ok (.if_icmp .ne 18, 3) := by decide +kernel
theorem dX11_copy_39 : decode cX11_copy 39 = .ok (.aload_n 0, 1) := by decide +kernel
theorem dX11_copy_40 : decode cX11_copy 40 = .ok (.getfield 25, 3) := by decide +kernel
theorem dX11_copy_43 : decode cX11_copy 43 = .ok (.iload_n 2, 1) := by decide +kernel
theorem dX11_copy_44 : decode cX11_copy 44 = .ok (.aload_n 0, 1) := by decide +kernel
theorem dX11_copy_45 : decode cX11_copy 45 = .ok (.getfield 28, 3) := by decide +kernel
theorem dX11_copy_48 : decode cX11_copy 48 = .ok (.iload_n 3, 1) := by decide +kernel
theorem dX11_copy_49 : decode cX11_copy 49 = .ok (.iaload, 1) := by decide +kernel
theorem dX11_copy_50 : decode cX11_copy 50 = .ok (.iastore, 1) := by decide +kernel
theorem dX11_copy_51 : decode cX11_copy 51 = .ok (.goto 15, 3) := by decide +kernel
theorem dX11_copy_54 : decode cX11_copy 54 = .ok (.aload_n 0, 1) := by decide +kernel
theorem dX11_copy_55 : decode cX11_copy 55 = .ok (.getfield 28, 3) := by decide +kernel
theorem dX11_copy_58 : decode cX11_copy 58 = .ok (.iload_n 3, 1) := by decide +kernel
theorem dX11_copy_59 : decode cX11_copy 59 = .ok (.aload_n 0, 1) := by decide +kernel
theorem dX11_copy_60 : decode cX11_copy 60 = .ok (.getfield 25, 3) := by decide +kernel
theorem dX11_copy_63 : decode cX11_copy 63 = .ok (.iload_n 2, 1) := by decide +kernel
theorem dX11_copy_64 : decode cX11_copy 64 = .ok (.iaload, 1) := by decide +kernel
theorem dX11_copy_65 : decode cX11_copy 65 = .ok (.iastore, 1) := by decide +kernel
theorem dX11_copy_66 : decode cX11_copy 66 = .ok (.iinc 1 1, 3) := by decide +kernel
theorem dX11_copy_69 : decode cX11_copy 69 = .ok (.goto (-67), 3) := by decide +kernel
theorem dX11_copy_72 : decode cX11_copy 72 = .ok (.aload_n 0, 1) := by decide +kernel
theorem dX11_copy_73 : decode cX11_copy 73 = .ok (.dup, 1) := by decide +kernel
theorem dX11_copy_74 : decode cX11_copy 74 = .ok (.getfield 209, 3) := by decide +kernel
theorem dX11_copy_77 : decode cX11_copy 77 = .ok (.ldc2_w 212, 3) := by decide +kernel
theorem dX11_copy_80 : decode cX11_copy 80 = .ok (.ladd, 1) := by decide +kernel
theorem dX11_copy_81 : decode cX11_copy 81 = .ok (.putfield 209, 3) := by decide +kernel
theorem dX11_copy_84 : decode cX11_copy 84 = .ok (.aload_n 0, 1) := by decide +kernel
theorem dX11_copy_85 : decode cX11_copy 85 = .ok (.iconst 1, 1) := by decide +kernel
theorem dX11_copy_86 : decode cX11_copy 86 = .ok (.putfield 133, 3) := by decide +kernel
theorem dX11_copy_89 : decode cX11_copy 89 = .ok (.return_, 1) := by decide +kernel
theorem dX11_tick_0 : decode cX11_tick 0 = .ok (.aload_n 0, 1) := by decide +kernel
theorem dX11_tick_1 : decode cX11_tick 1 = .ok (.dup, 1) := by decide +kernel
theorem dX11_tick_2 : decode cX11_tick 2 = .ok (.getfield 214, 3) := by decide +kernel
theorem dX11_tick_5 : decode cX11_tick 5 = .ok (.lconst 1, 1) := by decide +kernel
theorem dX11_tick_6 : decode cX11_tick 6 = .ok (.ladd, 1) := by decide +kernel
theorem dX11_tick_7 : decode cX11_tick 7 = .ok (.putfield 214, 3) := by decide +kernel
theorem dX11_tick_10 : decode cX11_tick 10 = .ok (.aload_n 0, 1) := by decide +kernel
theorem dX11_tick_11 : decode cX11_tick 11 = .ok (.dup, 1) := by decide +kernel
theorem dX11_tick_12 : decode cX11_tick 12 = .ok (.getfield 92, 3) := by decide +kernel
theorem dX11_tick_15 : decode cX11_tick 15 = .ok (.lconst 1, 1) := by decide +kernel
theorem dX11_tick_16 : decode cX11_tick 16 = .ok (.ladd, 1) := by decide +kernel
theorem dX11_tick_17 : decode cX11_tick 17 = .ok (.putfield 92, 3) := by decide +kernel
theorem dX11_tick_20 : decode cX11_tick 20 = .ok (.iconst 0, 1) := by decide +kernel
theorem dX11_tick_21 : decode cX11_tick 21 = .ok (.istore_n 1, 1) := by decide +kernel
theorem dX11_tick_22 : decode cX11_tick 22 = .ok (.iload_n 1, 1) := by decide +kernel
theorem dX11_tick_23 : decode cX11_tick 23 = .ok (.iconst 2, 1) := by decide +kernel
theorem dX11_tick_24 : decode cX11_tick 24 = .ok (.if_icmp .ge 93, 3) := by decide +kernel
theorem dX11_tick_27 : decode cX11_tick 27 = .ok (.aload_n 0, 1) := by decide +kernel
theorem dX11_tick_28 : decode cX11_tick 28 = .ok (.getfield 92, 3) := by decide +kernel
theorem dX11_tick_31 : decode cX11_tick 31 = .ok (.ldc2_w 217, 3) := by decide +kernel
theorem dX11_tick_34 : decode cX11_tick 34 = .ok (.lrem, 1) := by decide +kernel
theorem dX11_tick_35 : decode cX11_tick 35 = .ok (.lconst 0, 1) := by decide +kernel
theorem dX11_tick_36 : decode cX11_tick 36 = .ok (.lcmp, 1) := by decide +kernel
theorem dX11_tick_37 : decode cX11_tick 37 = .ok (.ifCond .ne 80, 3) := by decide +kernel
theorem dX11_tick_40 : decode cX11_tick 40 = .ok (.aload_n 0, 1) := by decide +kernel
theorem dX11_tick_41 : decode cX11_tick 41 = .ok (.getfield 49, 3) := by decide +kernel
theorem dX11_tick_44 : decode cX11_tick 44 = .ok (.iload_n 1, 1) := by decide +kernel
theorem dX11_tick_45 : decode cX11_tick 45 = .ok (.iaload, 1) := by decide +kernel
theorem dX11_tick_46 : decode cX11_tick 46 = .ok (.ifCond .ne 6, 3) := by decide +kernel
theorem dX11_tick_49 : decode cX11_tick 49 = .ok (.goto 62, 3) := by decide +kernel
theorem dX11_tick_52 : decode cX11_tick 52 = .ok (.aload_n 0, 1) := by decide +kernel
theorem dX11_tick_53 : decode cX11_tick 53 = .ok (.getfield 52, 3) := by decide +kernel
theorem dX11_tick_56 : decode cX11_tick 56 = .ok (.iload_n 1, 1) := by decide +kernel
theorem dX11_tick_57 : decode cX11_tick 57 = .ok (.aload_n 0, 1) := by decide +kernel
theorem dX11_tick_58 : decode cX11_tick 58 = .ok (.getfield 52, 3) := by decide +kernel
theorem dX11_tick_61 : decode cX11_tick 61 = .ok (.iload_n 1, 1) := by decide +kernel
theorem dX11_tick_62 : decode cX11_tick 62 = .ok (.iaload, 1) := by decide +kernel
theorem dX11_tick_63 : decode cX11_tick 63 = .ok (.ifCond .ne 8, 3) := by decide +kernel
theorem dX11_tick_66 : decode cX11_tick 66 = .ok (.ldc 219, 2) := by decide +kernel
theorem dX11_tick_68 : decode cX11_tick 68 = .ok (.goto 11, 3) := by decide +kernel
theorem dX11_tick_71 : decode cX11_tick 71 = .ok (.aload_n 0, 1) := by decide +kernel
theorem dX11_tick_72 : decode cX11_tick 72 = .ok (.getfield 52, 3) := by decide +kernel
theorem dX11_tick_75 : decode cX11_tick 75 = .ok (.iload_n 1, 1) := by decide +kernel
theorem dX11_tick_76 : decode cX11_tick 76 = .ok (.iaload, 1) := by decide +kernel
theorem dX11_tick_77 : decode cX11_tick 77 = .ok (.iconst 1, 1) := by decide +kernel
theorem dX11_tick_78 : decode cX11_tick 78 = .ok (.isub, 1) := by decide +kernel
theorem dX11_tick_79 : decode cX11_tick 79 = .ok (.iastore, 1) := by decide +kernel
theorem dX11_tick_80 : decode cX11_tick 80 = .ok (.aload_n 0, 1) := by decide +kernel
theorem dX11_tick_81 : decode cX11_tick 81 = .ok (.getfield 52, 3) := by decide +kernel
theorem dX11_tick_84 : decode cX11_tick 84 = .ok (.iload_n 1, 1) := by decide +kernel
theorem dX11_tick_85 : decode cX11_tick 85 = .ok (.iaload, 1) := by decide +kernel
theorem dX11_tick_86 : decode cX11_tick 86 = .ok (.ifCond .le 6, 3) := by decide +kernel
theorem dX11_tick_89 : decode cX11_tick 89 = .ok (.goto 22, 3) := by decide +kernel
theorem dX11_tick_92 : decode cX11_tick 92 = .ok (.aload_n 0, 1) := by decide +kernel
theorem dX11_tick_93 : decode cX11_tick 93 = .ok (.getfield 52, 3) := by decide +kernel
theorem dX11_tick_96 : decode cX11_tick 96 = .ok (.iload_n 1, 1) := by decide +kernel
theorem dX11_tick_97 : decode cX11_tick 97 = .ok (.aload_n 0, 1) := by decide +kernel
theorem dX11_tick_98 : decode cX11_tick 98 = .ok (.getfield 49, 3) := by decide +kernel
theorem dX11_tick_101 : decode cX11_tick 101 = .ok (.iload_n 1, 1) := by decide +kernel
theorem dX11_tick_102 : decode cX11_tick 102 = .ok (.iaload, 1) := by decide +kernel
theorem dX11_tick_103 : decode cX11_tick 103 = .ok (.iastore, 1) := by decide +kernel
theorem dX11_tick_104 : decode cX11_tick 104 = .ok (.aload_n 0, 1) := by decide +kernel
theorem dX11_tick_105 : decode cX11_tick 105 = .ok (.getfield 46, 3) := by decide +kernel
theorem dX11_tick_108 : decode cX11_tick 108 = .ok (.iload_n 1, 1) := by decide +kernel
theorem dX11_tick_109 : decode cX11_tick 109 = .ok (.iconst 1, 1) := by decide +kernel
theorem dX11_tick_110 : decode cX11_tick 110 = .ok (.iastore, 1) := by decide +kernel
theorem dX11_tick_111 : decode cX11_tick 111 = .ok (.iinc 1 1, 3) := by decide +kernel
theorem dX11_tick_114 : decode cX11_tick 114 = .ok (.goto (-92), 3) := by decide +kernel
theorem dX11_tick_117 : decode cX11_tick 117 = .ok (.aload_n 0, 1) := by decide +kernel
theorem dX11_tick_118 : decode cX11_tick 118 = .ok (.getfield 115, 3) := by decide +kernel
theorem dX11_tick_121 : decode cX11_tick 121 = .ok (.ifCond .le 13, 3) := by decide +kernel
theorem dX11_tick_124 : decode cX11_tick 124 = .ok (.aload_n 0, 1) := by decide +kernel
theorem dX11_tick_125 : decode cX11_tick 125 = .ok (.dup, 1) := by decide +kernel
theorem dX11_tick_126 : decode cX11_tick 126 = .ok (.getfield 115, 3) := by decide +kernel
theorem dX11_tick_129 : decode cX11_tick 129 = .ok (.iconst 1, 1) := by decide +kernel
theorem dX11_tick_130 : decode cX11_tick 130 = .ok (.isub, 1) := by decide +kernel
theorem dX11_tick_131 : decode cX11_tick 131 = .ok (.putfield 115, 3) := by decide +kernel
theorem dX11_tick_134 : decode cX11_tick 134 = .ok (.aload_n 0, 1) := by decide +kernel
theorem dX11_tick_135 : decode cX11_tick 135 = .ok (.getfield 124, 3) := by decide +kernel
theorem dX11_tick_138 : decode cX11_tick 138 = .ok (.ifCond .le 24, 3) := by decide +kernel
theorem dX11_tick_141 : decode cX11_tick 141 = .ok (.aload_n 0, 1) := by decide +kernel
theorem dX11_tick_142 : decode cX11_tick 142 = .ok (.dup, 1) := by decide +kernel
theorem dX11_tick_143 : decode cX11_tick 143 = .ok (.getfield 124, 3) := by decide +kernel
theorem dX11_tick_146 : decode cX11_tick 146 = .ok (.iconst 1, 1) := by decide +kernel
theorem dX11_tick_147 : decode cX11_tick 147 = .ok (.isub, 1) := by decide +kernel
theorem dX11_tick_148 : decode cX11_tick 148 = .ok (.putfield 124, 3) := by decide +kernel
theorem dX11_tick_151 : decode cX11_tick 151 = .ok (.aload_n 0, 1) := by decide +kernel
theorem dX11_tick_152 : decode cX11_tick 152 = .ok (.getfield 124, 3) := by decide +kernel
theorem dX11_tick_155 : decode cX11_tick 155 = .ok (.ifCond .ne 7, 3) := by decide +kernel
theorem dX11_tick_158 : decode cX11_tick 158 = .ok (.aload_n 0, 1) := by decide +kernel
theorem dX11_tick_159 : decode cX11_tick 159 = .ok (.invokevirtual 220, 3) := by decide +kernel
theorem dX11_tick_162 : decode cX11_tick 162 = .ok (.aload_n 0, 1) := by decide +kernel
theorem dX11_tick_163 : decode cX11_tick 163 = .ok (.getfield 92, 3) := by decide +kernel
theorem dX11_tick_166 : decode cX11_tick 166 = .ok (.ldc2_w 223, 3) := by decide +kernel
theorem dX11_tick_169 : decode cX11_tick 169 = .ok (.lrem, 1) := by decide +kernel
theorem dX11_tick_170 : decode cX11_tick 170 = .ok (.lconst 0, 1) := by decide +kernel
theorem dX11_tick_171 : decode cX11_tick 171 = .ok (.lcmp, 1) := by decide +kernel
theorem dX11_tick_172 : decode cX11_tick 172 = .ok (.ifCond .ne 7, 3) := by decide +kernel
theorem dX11_tick_175 : decode cX11_tick 175 = .ok (.aload_n 0, 1) := by decide +kernel
theorem dX11_tick_176 : decode cX11_tick 176 = .ok (.invokevirtual 225, 3) := by decide +kernel
theorem dX11_tick_179 : decode cX11_tick 179 = .ok (.return_, 1) := by decide +kernel
theorem dX11_paint_0 : decode cX11_paint 0 = .ok (.bipush 16, 2) := by decide +kernel
theorem dX11_paint_2 : decode cX11_paint 2 = .ok (.aload_n 0, 1) := by decide +kernel
theorem dX11_paint_3 : decode cX11_paint 3 = .ok (.getfield 40, 3) := by decide +kernel
theorem dX11_paint_6 : decode cX11_paint 6 = .ok (.iconst 0, 1) := by decide +kernel
theorem dX11_paint_7 : decode cX11_paint 7 = .ok (.iaload, 1) := by decide +kernel
theorem dX11_paint_8 : decode cX11_paint 8 = .ok (.imul, 1) := by decide +kernel
theorem dX11_paint_9 : decode cX11_paint 9 = .ok (.ldc 219, 2) := by decide +kernel
theorem dX11_paint_11 : decode cX11_paint 11 = .ok (.iand, 1) := by decide +kernel
theorem dX11_paint_12 : decode cX11_paint 12 = .ok (.istore_n 1, 1) := by decide +kernel
theorem dX11_paint_13 : decode cX11_paint 13 = .ok (.bipush 16, 2) := by decide +kernel
theorem dX11_paint_15 : decode cX11_paint 15 = .ok (.aload_n 0, 1) := by decide +kernel
theorem dX11_paint_16 : decode cX11_paint 16 = .ok (.getfield 40, 3) := by decide +kernel
theorem dX11_paint_19 : decode cX11_paint 19 = .ok (.iconst 2, 1) := by decide +kernel
theorem dX11_paint_20 : decode cX11_paint 20 = .ok (.iaload, 1) := by decide +kernel
theorem dX11_paint_21 : decode cX11_paint 21 = .ok (.imul, 1) := by decide +kernel
theorem dX11_paint_22 : decode cX11_paint 22 = .ok (.bipush 15, 2) := by decide +kernel
theorem dX11_paint_24 : decode cX11_paint 24 = .ok (.iadd, 1) := by decide +kernel
theorem dX11_paint_25 : decode cX11_paint 25 = .ok (.ldc 219, 2) := by decide +kernel
theorem dX11_paint_27 : decode cX11_paint 27 = .ok (.iand, 1) := by decide +kernel
theorem dX11_paint_28 : decode cX11_paint 28 = .ok (.istore_n 2, 1) := by decide +kernel
theorem dX11_paint_29 : decode cX11_paint 29 = .ok (.iconst 0, 1) := by decide +kernel
theorem dX11_paint_30 : decode cX11_paint 30 = .ok (.istore_n 3, 1) := by decide +kernel
theorem dX11_paint_31 : decode cX11_paint 31 = .ok (.iconst 0, 1) := by decide +kernel
theorem dX11_paint_32 : decode cX11_paint 32 = .ok (.istore 4, 2) := by decide +kernel
theorem dX11_paint_34 : decode cX11_paint 34 = .ok (.iload 4, 2) := by decide +kernel
theorem dX11_paint_36 : decode cX11_paint 36 = .ok (.sipush 2048, 3) := by decide +kernel
theorem dX11_paint_39 : decode cX11_paint 39 = .ok (.if_icmp .ge 141, 3) := by decide +kernel
theorem dX11_paint_42 : decode cX11_paint 42 = .ok (.iconst 0, 1) := by decide +kernel
theorem dX11_paint_43 : decode cX11_paint 43 = .ok (.istore 5, 2) := by decide +kernel
theorem dX11_paint_45 : decode cX11_paint 45 = .ok (.iconst 0, 1) := by decide +kernel
theorem dX11_paint_46 : decode cX11_paint 46 = .ok (.istore 6, 2) := by decide +kernel
theorem dX11_paint_48 : decode cX11_paint 48 = .ok (.iload 6, 2) := by decide +kernel
theorem dX11_paint_50 : decode cX11_paint 50 = .ok (.iconst 1, 1) := by decide +kernel
theorem dX11_paint_51 : decode cX11_paint 51 = .ok (.aload_n 0, 1) := by decide +kernel
theorem dX11_paint_52 : decode cX11_paint 52 = .ok (.getfield 83, 3) := by decide +kernel
theorem dX11_paint_55 : decode cX11_paint 55 = .ok (.ishl, 1) := by decide +kernel
theorem dX11_paint_56 : decode cX11_paint 56 = .ok (.if_icmp .ge 77, 3) := by decide +kernel
theorem dX11_paint_59 : decode cX11_paint 59 = .ok (.iload 5, 2) := by decide +kernel
theorem dX11_paint_61 : decode cX11_paint 61 = .ok (.aload_n 0, 1) := by decide +kernel
theorem dX11_paint_62 : decode cX11_paint 62 = .ok (.getfield 25, 3) := by decide +kernel
theorem dX11_paint_65 : decode cX11_paint 65 = .ok (.iload_n 1, 1) := by decide +kernel
theorem dX11_paint_66 : decode cX11_paint 66 = .ok (.iconst 2, 1) := by decide +kernel
theorem dX11_paint_67 : decode cX11_paint 67 = .ok (.ishr, 1) := by decide +kernel
theorem dX11_paint_68 : decode cX11_paint 68 = .ok (.iaload, 1) := by decide +kernel
theorem dX11_paint_69 : decode cX11_paint 69 = .ok (.bipush 8, 2) := by decide +kernel
theorem dX11_paint_71 : decode cX11_paint 71 = .ok (.iload_n 1, 1) := by decide +kernel
theorem dX11_paint_72 : decode cX11_paint 72 = .ok (.iconst 3, 1) := by decide +kernel
theorem dX11_paint_73 : decode cX11_paint 73 = .ok (.iand, 1) := by decide +kernel
theorem dX11_paint_74 : decode cX11_paint 74 = .ok (.imul, 1) := by decide +kernel
theorem dX11_paint_75 : decode cX11_paint 75 = .ok (.iload_n 3, 1) := by decide +kernel
theorem dX11_paint_76 : decode cX11_paint 76 = .ok (.iadd, 1) := by decide +kernel
theorem dX11_paint_77 : decode cX11_paint 77 = .ok (.iushr, 1) := by decide +kernel
theorem dX11_paint_78 : decode cX11_paint 78 = .ok (.iconst 1, 1) := by decide +kernel
theorem dX11_paint_79 : decode cX11_paint 79 = .ok (.iand, 1) := by decide +kernel
theorem dX11_paint_80 : decode cX11_paint 80 = .ok (.iload 6, 2) := by decide +kernel
theorem dX11_paint_82 : decode cX11_paint 82 = .ok (.ishl, 1) := by decide +kernel
theorem dX11_paint_83 : decode cX11_paint 83 = .ok (.ior, 1) := by decide +kernel
theorem dX11_paint_84 : decode cX11_paint 84 = .ok (.istore 5, 2) := by decide +kernel
theorem dX11_paint_86 : decode cX11_paint 86 = .ok (.iinc 3 1, 3) := by decide +kernel
theorem dX11_paint_89 : decode cX11_paint 89 = .ok (.iload_n 3, 1) := by decide +kernel
theorem dX11_paint_90 : decode cX11_paint 90 = .ok (.bipush 8, 2) := by decide +kernel
theorem dX11_paint_92 : decode cX11_paint 92 = .ok (.if_icmp .ge 6, 3) := by decide +kernel
theorem dX11_paint_95 : decode cX11_paint 95 = .ok (.goto 32, 3) := by decide +kernel
theorem dX11_paint_98 : decode cX11_paint 98 = .ok (.iconst 0, 1) := by decide +kernel
theorem dX11_paint_99 : decode cX11_paint 99 = .ok (.istore_n 3, 1) := by decide +kernel
theorem dX11_paint_100 : decode cX11_paint 100 = .ok (.iload_n 1, 1) := by decide +kernel
theorem dX11_paint_101 : decode cX11_paint 101 = .ok (.iload_n 2, 1) := by decide +kernel
theorem dX11_paint_102 : decode cX11_paint 102 = .ok (.if_icmp .ne 18, 3) := by decide +kernel
theorem dX11_paint_105 : decode cX11_paint 105 = .ok (.bipush 16, 2) := by decide +kernel
theorem dX11_paint_107 : decode cX11_paint 107 = .ok (.aload_n 0, 1) := by decide +kernel
theorem dX11_paint_108 : decode cX11_paint 108 = .ok (.getfield 40, 3) := by decide +kernel
theorem dX11_paint_111 : decode cX11_paint 111 = .ok (.iconst 1, 1) := by decide +kernel
theorem dX11_paint_112 : decode cX11_paint 112 = .ok (.iaload, 1) := by decide +kernel
theorem dX11_paint_113 : decode cX11_paint 113 = .ok (.imul, 1) := by decide +kernel
theorem dX11_paint_114 : decode cX11_paint 114 = .ok (.ldc 219, 2) := by decide +kernel
theorem dX11_paint_116 : decode cX11_paint 116 = .ok (.iand, 1) := by decide +kernel
theorem dX11_paint_117 : decode cX11_paint 117 = .ok (.goto 9, 3) := by decide +kernel
theorem dX11_paint_120 : decode cX11_paint 120 = .ok (.iload_n 1, 1) := by decide +kernel
theorem dX11_paint_121 : decode cX11_paint 121 = .ok (.iconst 1, 1) := by decide +kernel
theorem dX11_paint_122 : decode cX11_paint 122 = .ok (.iadd, 1) := by decide +kernel
theorem dX11_paint_123 : decode cX11_paint 123 = .ok (.ldc 219, 2) := by decide +kernel
theorem dX11_paint_125 : decode cX11_paint 125 = .ok (.iand, 1) := by decide +kernel
theorem dX11_paint_126 : decode cX11_paint 126 = .ok (.istore_n 1, 1) := by decide +kernel
theorem dX11_paint_127 : decode cX11_paint 127 = .ok (.iinc 6 1, 3) := by decide +kernel
theorem dX11_paint_130 : decode cX11_paint 130 = .ok (.goto (-82), 3) := by decide +kernel
theorem dX11_paint_133 : decode cX11_paint 133 = .ok (.aload_n 0, 1) := by decide +kernel
theorem dX11_paint_134 : decode cX11_paint 134 = .ok (.getfield 43, 3) := by decide +kernel
theorem dX11_paint_137 : decode cX11_paint 137 = .ok (.iload 4, 2) := by decide +kernel
theorem dX11_paint_139 : decode cX11_paint 139 = .ok (.aload_n 0, 1) := by decide +kernel
theorem dX11_paint_140 : decode cX11_paint 140 = .ok (.getfield 86, 3) := by decide +kernel
theorem dX11_paint_143 : decode cX11_paint 143 = .ok (.ifCond .ne 10, 3) := by decide +kernel
theorem dX11_paint_146 : decode cX11_paint 146 = .ok (.aload_n 0, 1) := by decide +kernel
theorem dX11_paint_147 : decode cX11_paint 147 = .ok (.getfield 80, 3) := by decide +kernel
theorem dX11_paint_150 : decode cX11_paint 150 = .ok (.goto 23, 3) := by decide +kernel
theorem dX11_paint_153 : decode cX11_paint 153 = .ok (.aload_n 0, 1) := by decide +kernel
theorem dX11_paint_154 : decode cX11_paint 154 = .ok (.getfield 37, 3) := by decide +kernel
theorem dX11_paint_157 : decode cX11_paint 157 = .ok (.iload 5, 2) := by decide +kernel
theorem dX11_paint_159 : decode cX11_paint 159 = .ok (.bipush 15, 2) := by decide +kernel
theorem dX11_paint_161 : decode cX11_paint 161 = .ok (.iand, 1) := by decide +kernel
theorem dX11_paint_162 : decode cX11_paint 162 = .ok (.iaload, 1) := by decide +kernel
theorem dX11_paint_163 : decode cX11_paint 163 = .ok (.iload 5, 2) := by decide +kernel
theorem dX11_paint_165 : decode cX11_paint 165 = .ok (.bipush 16, 2) := by decide +kernel
theorem dX11_paint_167 : decode cX11_paint 167 = .ok (.idiv, 1) := by decide +kernel
theorem dX11_paint_168 : decode cX11_paint 168 = .ok (.sipush 256, 3) := by decide +kernel
theorem dX11_paint_171 : decode cX11_paint 171 = .ok (.imul, 1) := by decide +kernel
theorem dX11_paint_172 : decode cX11_paint 172 = .ok (.ixor, 1) := by decide +kernel
theorem dX11_paint_173 : decode cX11_paint 173 = .ok (.iastore, 1) := by decide +kernel
theorem dX11_paint_174 : decode cX11_paint 174 = .ok (.iinc 4 1, 3) := by decide +kernel
theorem dX11_paint_177 : decode cX11_paint 177 = .ok (.goto (-143), 3) := by decide +kernel
theorem dX11_paint_180 : decode cX11_paint 180 = .ok (.aload_n 0, 1) := by decide +kernel
theorem dX11_paint_181 : decode cX11_paint 181 = .ok (.iconst 1, 1) := by decide +kernel
theorem dX11_paint_182 : decode cX11_paint 182 = .ok (.putfield 96, 3) := by decide +kernel
theorem dX11_paint_185 : decode cX11_paint 185 = .ok (.aload_n 0, 1) := by decide +kernel
theorem dX11_paint_186 : decode cX11_paint 186 = .ok (.dup, 1) := by decide +kernel
theorem dX11_paint_187 : decode cX11_paint 187 = .ok (.getfield 228, 3) := by decide +kernel
theorem dX11_paint_190 : decode cX11_paint 190 = .ok (.lconst 1, 1) := by decide +kernel
theorem dX11_paint_191 : decode cX11_paint 191 = .ok (.ladd, 1) := by decide +kernel
theorem dX11_paint_192 : decode cX11_paint 192 = .ok (.putfield 228, 3) := by decide +kernel
theorem dX11_paint_195 : decode cX11_paint 195 = .ok (.return_, 1) := by decide +kernel
theorem dX11_trap_0 : decode cX11_trap 0 = .ok (.aload_n 0, 1) := by decide +kernel
theorem dX11_trap_1 : decode cX11_trap 1 = .ok (.getfield 77, 3) := by decide +kernel
theorem dX11_trap_4 : decode cX11_trap 4 = .ok (.ldc 157, 2) := by decide +kernel
theorem dX11_trap_6 : decode cX11_trap 6 = .ok (.iand, 1) := by decide +kernel
theorem dX11_trap_7 : decode cX11_trap 7 = .ok (.aload_n 0, 1) := by decide +kernel
theorem dX11_trap_8 : decode cX11_trap 8 = .ok (.iload 4, 2) := by decide +kernel
theorem dX11_trap_10 : decode cX11_trap 10 = .ok (.invokevirtual 144, 3) := by decide +kernel
theorem dX11_trap_13 : decode cX11_trap 13 = .ok (.ior, 1) := by decide +kernel
theorem dX11_trap_14 : decode cX11_trap 14 = .ok (.istore 5, 2) := by decide +kernel
theorem dX11_trap_16 : decode cX11_trap 16 = .ok (.aload_n 0, 1) := by decide +kernel
theorem dX11_trap_17 : decode cX11_trap 17 = .ok (.getfield 66, 3) := by decide +kernel
theorem dX11_trap_20 : decode cX11_trap 20 = .ok (.iload_n 1, 1) := by decide +kernel
