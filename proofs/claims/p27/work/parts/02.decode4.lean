theorem dL_lines_111 : decode cL_lines 111 = .ok (.if_icmp .ne 22, 3) := by decide +kernel
theorem dL_lines_114 : decode cL_lines 114 = .ok (.aload_n 0, 1) := by decide +kernel
theorem dL_lines_115 : decode cL_lines 115 = .ok (.iload 6, 2) := by decide +kernel
theorem dL_lines_117 : decode cL_lines 117 = .ok (.iconst 0, 1) := by decide +kernel
theorem dL_lines_118 : decode cL_lines 118 = .ok (.invokevirtual 34, 3) := by decide +kernel
theorem dL_lines_121 : decode cL_lines 121 = .ok (.aload_n 0, 1) := by decide +kernel
theorem dL_lines_122 : decode cL_lines 122 = .ok (.iload 4, 2) := by decide +kernel
theorem dL_lines_124 : decode cL_lines 124 = .ok (.iconst 0, 1) := by decide +kernel
theorem dL_lines_125 : decode cL_lines 125 = .ok (.invokevirtual 34, 3) := by decide +kernel
theorem dL_lines_128 : decode cL_lines 128 = .ok (.if_icmp .gt 5, 3) := by decide +kernel
theorem dL_lines_131 : decode cL_lines 131 = .ok (.iconst 0, 1) := by decide +kernel
theorem dL_lines_132 : decode cL_lines 132 = .ok (.ireturn, 1) := by decide +kernel
theorem dL_lines_133 : decode cL_lines 133 = .ok (.iinc 6 1, 3) := by decide +kernel
theorem dL_lines_136 : decode cL_lines 136 = .ok (.goto (-88), 3) := by decide +kernel
theorem dL_lines_139 : decode cL_lines 139 = .ok (.iload_n 3, 1) := by decide +kernel
theorem dL_lines_140 : decode cL_lines 140 = .ok (.iload 5, 2) := by decide +kernel
theorem dL_lines_142 : decode cL_lines 142 = .ok (.iadd, 1) := by decide +kernel
theorem dL_lines_143 : decode cL_lines 143 = .ok (.istore_n 3, 1) := by decide +kernel
theorem dL_lines_144 : decode cL_lines 144 = .ok (.aload_n 0, 1) := by decide +kernel
theorem dL_lines_145 : decode cL_lines 145 = .ok (.aload_n 0, 1) := by decide +kernel
theorem dL_lines_146 : decode cL_lines 146 = .ok (.iload 4, 2) := by decide +kernel
theorem dL_lines_148 : decode cL_lines 148 = .ok (.iconst 2, 1) := by decide +kernel
theorem dL_lines_149 : decode cL_lines 149 = .ok (.invokevirtual 34, 3) := by decide +kernel
theorem dL_lines_152 : decode cL_lines 152 = .ok (.iconst 0, 1) := by decide +kernel
theorem dL_lines_153 : decode cL_lines 153 = .ok (.invokevirtual 19, 3) := by decide +kernel
theorem dL_lines_156 : decode cL_lines 156 = .ok (.istore_n 2, 1) := by decide +kernel
theorem dL_lines_157 : decode cL_lines 157 = .ok (.aload_n 0, 1) := by decide +kernel
theorem dL_lines_158 : decode cL_lines 158 = .ok (.iload 4, 2) := by decide +kernel
theorem dL_lines_160 : decode cL_lines 160 = .ok (.iconst 4, 1) := by decide +kernel
theorem dL_lines_161 : decode cL_lines 161 = .ok (.invokevirtual 34, 3) := by decide +kernel
theorem dL_lines_164 : decode cL_lines 164 = .ok (.iload_n 3, 1) := by decide +kernel
theorem dL_lines_165 : decode cL_lines 165 = .ok (.if_icmp .ne 18, 3) := by decide +kernel
theorem dL_lines_168 : decode cL_lines 168 = .ok (.aload_n 0, 1) := by decide +kernel
theorem dL_lines_169 : decode cL_lines 169 = .ok (.iload 4, 2) := by decide +kernel
theorem dL_lines_171 : decode cL_lines 171 = .ok (.iconst 0, 1) := by decide +kernel
theorem dL_lines_172 : decode cL_lines 172 = .ok (.invokevirtual 34, 3) := by decide +kernel
theorem dL_lines_175 : decode cL_lines 175 = .ok (.aload_n 0, 1) := by decide +kernel
theorem dL_lines_176 : decode cL_lines 176 = .ok (.iconst 2, 1) := by decide +kernel
theorem dL_lines_177 : decode cL_lines 177 = .ok (.invokevirtual 13, 3) := by decide +kernel
theorem dL_lines_180 : decode cL_lines 180 = .ok (.if_icmp .lt 5, 3) := by decide +kernel
theorem dL_lines_183 : decode cL_lines 183 = .ok (.iconst 0, 1) := by decide +kernel
theorem dL_lines_184 : decode cL_lines 184 = .ok (.ireturn, 1) := by decide +kernel
theorem dL_lines_185 : decode cL_lines 185 = .ok (.iinc 4 1, 3) := by decide +kernel
theorem dL_lines_188 : decode cL_lines 188 = .ok (.goto (-171), 3) := by decide +kernel
theorem dL_lines_191 : decode cL_lines 191 = .ok (.aload_n 0, 1) := by decide +kernel
theorem dL_lines_192 : decode cL_lines 192 = .ok (.iload_n 1, 1) := by decide +kernel
theorem dL_lines_193 : decode cL_lines 193 = .ok (.iconst 0, 1) := by decide +kernel
theorem dL_lines_194 : decode cL_lines 194 = .ok (.invokevirtual 34, 3) := by decide +kernel
theorem dL_lines_197 : decode cL_lines 197 = .ok (.ldc 57, 2) := by decide +kernel
theorem dL_lines_199 : decode cL_lines 199 = .ok (.if_icmp .ne 29, 3) := by decide +kernel
theorem dL_lines_202 : decode cL_lines 202 = .ok (.aload_n 0, 1) := by decide +kernel
theorem dL_lines_203 : decode cL_lines 203 = .ok (.iconst (-1), 1) := by decide +kernel
theorem dL_lines_204 : decode cL_lines 204 = .ok (.iconst 0, 1) := by decide +kernel
theorem dL_lines_205 : decode cL_lines 205 = .ok (.invokevirtual 34, 3) := by decide +kernel
theorem dL_lines_208 : decode cL_lines 208 = .ok (.ldc 49, 2) := by decide +kernel
theorem dL_lines_210 : decode cL_lines 210 = .ok (.if_icmp .ne 18, 3) := by decide +kernel
theorem dL_lines_213 : decode cL_lines 213 = .ok (.aload_n 0, 1) := by decide +kernel
theorem dL_lines_214 : decode cL_lines 214 = .ok (.iconst 0, 1) := by decide +kernel
theorem dL_lines_215 : decode cL_lines 215 = .ok (.iconst 5, 1) := by decide +kernel
theorem dL_lines_216 : decode cL_lines 216 = .ok (.invokevirtual 34, 3) := by decide +kernel
theorem dL_lines_219 : decode cL_lines 219 = .ok (.ldc 49, 2) := by decide +kernel
theorem dL_lines_221 : decode cL_lines 221 = .ok (.if_icmp .ne 7, 3) := by decide +kernel
theorem dL_lines_224 : decode cL_lines 224 = .ok (.iconst 1, 1) := by decide +kernel
theorem dL_lines_225 : decode cL_lines 225 = .ok (.goto 4, 3) := by decide +kernel
theorem dL_lines_228 : decode cL_lines 228 = .ok (.iconst 0, 1) := by decide +kernel
theorem dL_lines_229 : decode cL_lines 229 = .ok (.ireturn, 1) := by decide +kernel
theorem dL_rail_0 : decode cL_rail 0 = .ok (.ldc 57, 2) := by decide +kernel
theorem dL_rail_2 : decode cL_rail 2 = .ok (.istore_n 2, 1) := by decide +kernel
theorem dL_rail_3 : decode cL_rail 3 = .ok (.ldc 57, 2) := by decide +kernel
theorem dL_rail_5 : decode cL_rail 5 = .ok (.istore_n 3, 1) := by decide +kernel
theorem dL_rail_6 : decode cL_rail 6 = .ok (.iconst 0, 1) := by decide +kernel
theorem dL_rail_7 : decode cL_rail 7 = .ok (.istore 4, 2) := by decide +kernel
theorem dL_rail_9 : decode cL_rail 9 = .ok (.iload 4, 2) := by decide +kernel
theorem dL_rail_11 : decode cL_rail 11 = .ok (.aload_n 0, 1) := by decide +kernel
theorem dL_rail_12 : decode cL_rail 12 = .ok (.iconst 0, 1) := by decide +kernel
theorem dL_rail_13 : decode cL_rail 13 = .ok (.invokevirtual 13, 3) := by decide +kernel
theorem dL_rail_16 : decode cL_rail 16 = .ok (.if_icmp .ge 78, 3) := by decide +kernel
theorem dL_rail_19 : decode cL_rail 19 = .ok (.aload_n 0, 1) := by decide +kernel
theorem dL_rail_20 : decode cL_rail 20 = .ok (.iload 4, 2) := by decide +kernel
theorem dL_rail_22 : decode cL_rail 22 = .ok (.iconst 0, 1) := by decide +kernel
theorem dL_rail_23 : decode cL_rail 23 = .ok (.invokevirtual 19, 3) := by decide +kernel
theorem dL_rail_26 : decode cL_rail 26 = .ok (.iload_n 1, 1) := by decide +kernel
theorem dL_rail_27 : decode cL_rail 27 = .ok (.isub, 1) := by decide +kernel
theorem dL_rail_28 : decode cL_rail 28 = .ok (.istore 5, 2) := by decide +kernel
theorem dL_rail_30 : decode cL_rail 30 = .ok (.iload 5, 2) := by decide +kernel
theorem dL_rail_32 : decode cL_rail 32 = .ok (.ifCond .le 25, 3) := by decide +kernel
theorem dL_rail_35 : decode cL_rail 35 = .ok (.iload_n 2, 1) := by decide +kernel
theorem dL_rail_36 : decode cL_rail 36 = .ok (.ifCond .lt 16, 3) := by decide +kernel
theorem dL_rail_39 : decode cL_rail 39 = .ok (.iload 5, 2) := by decide +kernel
theorem dL_rail_41 : decode cL_rail 41 = .ok (.aload_n 0, 1) := by decide +kernel
theorem dL_rail_42 : decode cL_rail 42 = .ok (.iload_n 2, 1) := by decide +kernel
theorem dL_rail_43 : decode cL_rail 43 = .ok (.iconst 0, 1) := by decide +kernel
theorem dL_rail_44 : decode cL_rail 44 = .ok (.invokevirtual 19, 3) := by decide +kernel
theorem dL_rail_47 : decode cL_rail 47 = .ok (.iload_n 1, 1) := by decide +kernel
theorem dL_rail_48 : decode cL_rail 48 = .ok (.isub, 1) := by decide +kernel
theorem dL_rail_49 : decode cL_rail 49 = .ok (.if_icmp .ge 8, 3) := by decide +kernel
theorem dL_rail_52 : decode cL_rail 52 = .ok (.iload 4, 2) := by decide +kernel
theorem dL_rail_54 : decode cL_rail 54 = .ok (.goto 4, 3) := by decide +kernel
theorem dL_rail_57 : decode cL_rail 57 = .ok (.iload_n 2, 1) := by decide +kernel
theorem dL_rail_58 : decode cL_rail 58 = .ok (.istore_n 2, 1) := by decide +kernel
theorem dL_rail_59 : decode cL_rail 59 = .ok (.iload 5, 2) := by decide +kernel
theorem dL_rail_61 : decode cL_rail 61 = .ok (.ifCond .ge 25, 3) := by decide +kernel
theorem dL_rail_64 : decode cL_rail 64 = .ok (.iload_n 3, 1) := by decide +kernel
theorem dL_rail_65 : decode cL_rail 65 = .ok (.ifCond .lt 16, 3) := by decide +kernel
theorem dL_rail_68 : decode cL_rail 68 = .ok (.iload 5, 2) := by decide +kernel
theorem dL_rail_70 : decode cL_rail 70 = .ok (.aload_n 0, 1) := by decide +kernel
theorem dL_rail_71 : decode cL_rail 71 = .ok (.iload_n 3, 1) := by decide +kernel
theorem dL_rail_72 : decode cL_rail 72 = .ok (.iconst 0, 1) := by decide +kernel
theorem dL_rail_73 : decode cL_rail 73 = .ok (.invokevirtual 19, 3) := by decide +kernel
theorem dL_rail_76 : decode cL_rail 76 = .ok (.iload_n 1, 1) := by decide +kernel
theorem dL_rail_77 : decode cL_rail 77 = .ok (.isub, 1) := by decide +kernel
theorem dL_rail_78 : decode cL_rail 78 = .ok (.if_icmp .le 8, 3) := by decide +kernel
theorem dL_rail_81 : decode cL_rail 81 = .ok (.iload 4, 2) := by decide +kernel
theorem dL_rail_83 : decode cL_rail 83 = .ok (.goto 4, 3) := by decide +kernel
theorem dL_rail_86 : decode cL_rail 86 = .ok (.iload_n 3, 1) := by decide +kernel
theorem dL_rail_87 : decode cL_rail 87 = .ok (.istore_n 3, 1) := by decide +kernel
theorem dL_rail_88 : decode cL_rail 88 = .ok (.iinc 4 1, 3) := by decide +kernel
theorem dL_rail_91 : decode cL_rail 91 = .ok (.goto (-82), 3) := by decide +kernel
theorem dL_rail_94 : decode cL_rail 94 = .ok (.aload_n 0, 1) := by decide +kernel
theorem dL_rail_95 : decode cL_rail 95 = .ok (.iload_n 1, 1) := by decide +kernel
theorem dL_rail_96 : decode cL_rail 96 = .ok (.iconst 1, 1) := by decide +kernel
theorem dL_rail_97 : decode cL_rail 97 = .ok (.invokevirtual 58, 3) := by decide +kernel
theorem dL_rail_100 : decode cL_rail 100 = .ok (.iload_n 2, 1) := by decide +kernel
theorem dL_rail_101 : decode cL_rail 101 = .ok (.if_icmp .ne 30, 3) := by decide +kernel
theorem dL_rail_104 : decode cL_rail 104 = .ok (.aload_n 0, 1) := by decide +kernel
theorem dL_rail_105 : decode cL_rail 105 = .ok (.iload_n 1, 1) := by decide +kernel
theorem dL_rail_106 : decode cL_rail 106 = .ok (.iconst 0, 1) := by decide +kernel
theorem dL_rail_107 : decode cL_rail 107 = .ok (.invokevirtual 58, 3) := by decide +kernel
theorem dL_rail_110 : decode cL_rail 110 = .ok (.iload_n 3, 1) := by decide +kernel
theorem dL_rail_111 : decode cL_rail 111 = .ok (.if_icmp .ne 20, 3) := by decide +kernel
theorem dL_rail_114 : decode cL_rail 114 = .ok (.aload_n 0, 1) := by decide +kernel
theorem dL_rail_115 : decode cL_rail 115 = .ok (.sipush 1001, 3) := by decide +kernel
theorem dL_rail_118 : decode cL_rail 118 = .ok (.iconst 1, 1) := by decide +kernel
theorem dL_rail_119 : decode cL_rail 119 = .ok (.invokevirtual 58, 3) := by decide +kernel
theorem dL_rail_122 : decode cL_rail 122 = .ok (.ldc 49, 2) := by decide +kernel
theorem dL_rail_124 : decode cL_rail 124 = .ok (.if_icmp .ne 7, 3) := by decide +kernel
theorem dL_rail_127 : decode cL_rail 127 = .ok (.iconst 1, 1) := by decide +kernel
theorem dL_rail_128 : decode cL_rail 128 = .ok (.goto 4, 3) := by decide +kernel
theorem dL_rail_131 : decode cL_rail 131 = .ok (.iconst 0, 1) := by decide +kernel
theorem dL_rail_132 : decode cL_rail 132 = .ok (.ireturn, 1) := by decide +kernel
theorem dL_sound_0 : decode cL_sound 0 = .ok (.iconst 0, 1) := by decide +kernel
theorem dL_sound_1 : decode cL_sound 1 = .ok (.istore_n 3, 1) := by decide +kernel
theorem dL_sound_2 : decode cL_sound 2 = .ok (.iconst 0, 1) := by decide +kernel
theorem dL_sound_3 : decode cL_sound 3 = .ok (.istore 4, 2) := by decide +kernel
theorem dL_sound_5 : decode cL_sound 5 = .ok (.iload 4, 2) := by decide +kernel
theorem dL_sound_7 : decode cL_sound 7 = .ok (.aload_n 0, 1) := by decide +kernel
theorem dL_sound_8 : decode cL_sound 8 = .ok (.iconst 0, 1) := by decide +kernel
theorem dL_sound_9 : decode cL_sound 9 = .ok (.invokevirtual 13, 3) := by decide +kernel
theorem dL_sound_12 : decode cL_sound 12 = .ok (.if_icmp .ge 40, 3) := by decide +kernel
theorem dL_sound_15 : decode cL_sound 15 = .ok (.iload_n 3, 1) := by decide +kernel
theorem dL_sound_16 : decode cL_sound 16 = .ok (.aload_n 0, 1) := by decide +kernel
theorem dL_sound_17 : decode cL_sound 17 = .ok (.iload 4, 2) := by decide +kernel
theorem dL_sound_19 : decode cL_sound 19 = .ok (.bipush 11, 2) := by decide +kernel
theorem dL_sound_21 : decode cL_sound 21 = .ok (.invokevirtual 19, 3) := by decide +kernel
theorem dL_sound_24 : decode cL_sound 24 = .ok (.iadd, 1) := by decide +kernel
theorem dL_sound_25 : decode cL_sound 25 = .ok (.istore_n 3, 1) := by decide +kernel
theorem dL_sound_26 : decode cL_sound 26 = .ok (.aload_n 0, 1) := by decide +kernel
theorem dL_sound_27 : decode cL_sound 27 = .ok (.iload 4, 2) := by decide +kernel
theorem dL_sound_29 : decode cL_sound 29 = .ok (.invokestatic 62, 3) := by decide +kernel
theorem dL_sound_32 : decode cL_sound 32 = .ok (.ifCond .eq 12, 3) := by decide +kernel
theorem dL_sound_35 : decode cL_sound 35 = .ok (.aload_n 0, 1) := by decide +kernel
theorem dL_sound_36 : decode cL_sound 36 = .ok (.iload 4, 2) := by decide +kernel
theorem dL_sound_38 : decode cL_sound 38 = .ok (.invokestatic 66, 3) := by decide +kernel
theorem dL_sound_41 : decode cL_sound 41 = .ok (.ifCond .ne 5, 3) := by decide +kernel
theorem dL_sound_44 : decode cL_sound 44 = .ok (.iconst 0, 1) := by decide +kernel
theorem dL_sound_45 : decode cL_sound 45 = .ok (.ireturn, 1) := by decide +kernel
theorem dL_sound_46 : decode cL_sound 46 = .ok (.iinc 4 1, 3) := by decide +kernel
theorem dL_sound_49 : decode cL_sound 49 = .ok (.goto (-44), 3) := by decide +kernel
theorem dL_sound_52 : decode cL_sound 52 = .ok (.aload_n 0, 1) := by decide +kernel
theorem dL_sound_53 : decode cL_sound 53 = .ok (.iconst 3, 1) := by decide +kernel
theorem dL_sound_54 : decode cL_sound 54 = .ok (.invokevirtual 13, 3) := by decide +kernel
theorem dL_sound_57 : decode cL_sound 57 = .ok (.bipush 12, 2) := by decide +kernel
theorem dL_sound_59 : decode cL_sound 59 = .ok (.if_icmp .ge 11, 3) := by decide +kernel
theorem dL_sound_62 : decode cL_sound 62 = .ok (.aload_n 0, 1) := by decide +kernel
theorem dL_sound_63 : decode cL_sound 63 = .ok (.iconst 3, 1) := by decide +kernel
theorem dL_sound_64 : decode cL_sound 64 = .ok (.invokevirtual 13, 3) := by decide +kernel
theorem dL_sound_67 : decode cL_sound 67 = .ok (.goto 5, 3) := by decide +kernel
theorem dL_sound_70 : decode cL_sound 70 = .ok (.bipush 12, 2) := by decide +kernel
theorem dL_sound_72 : decode cL_sound 72 = .ok (.istore 4, 2) := by decide +kernel
theorem dL_sound_74 : decode cL_sound 74 = .ok (.aload_n 0, 1) := by decide +kernel
theorem dL_sound_75 : decode cL_sound 75 = .ok (.invokestatic 69, 3) := by decide +kernel
theorem dL_sound_78 : decode cL_sound 78 = .ok (.ifCond .eq 75, 3) := by decide +kernel
theorem dL_sound_81 : decode cL_sound 81 = .ok (.aload_n 0, 1) := by decide +kernel
theorem dL_sound_82 : decode cL_sound 82 = .ok (.iload_n 2, 1) := by decide +kernel
theorem dL_sound_83 : decode cL_sound 83 = .ok (.invokestatic 73, 3) := by decide +kernel
theorem dL_sound_86 : decode cL_sound 86 = .ok (.ifCond .eq 67, 3) := by decide +kernel
theorem dL_sound_89 : decode cL_sound 89 = .ok (.iload_n 3, 1) := by decide +kernel
theorem dL_sound_90 : decode cL_sound 90 = .ok (.aload_n 0, 1) := by decide +kernel
theorem dL_sound_91 : decode cL_sound 91 = .ok (.iconst 1, 1) := by decide +kernel
theorem dL_sound_92 : decode cL_sound 92 = .ok (.invokevirtual 13, 3) := by decide +kernel
theorem dL_sound_95 : decode cL_sound 95 = .ok (.if_icmp .ne 58, 3) := by decide +kernel
theorem dL_sound_98 : decode cL_sound 98 = .ok (.aload_n 0, 1) := by decide +kernel
theorem dL_sound_99 : decode cL_sound 99 = .ok (.iconst 2, 1) := by decide +kernel
theorem dL_sound_100 : decode cL_sound 100 = .ok (.invokevirtual 13, 3) := by decide +kernel
theorem dL_sound_103 : decode cL_sound 103 = .ok (.iload_n 3, 1) := by decide +kernel
theorem dL_sound_104 : decode cL_sound 104 = .ok (.aload_n 0, 1) := by decide +kernel
theorem dL_sound_105 : decode cL_sound 105 = .ok (.iconst 3, 1) := by decide +kernel
theorem dL_sound_106 : decode cL_sound 106 = .ok (.invokevirtual 13, 3) := by decide +kernel
theorem dL_sound_109 : decode cL_sound 109 = .ok (.iadd, 1) := by decide +kernel
theorem dL_sound_110 : decode cL_sound 110 = .ok (.iload_n 1, 1) := by decide +kernel
theorem dL_sound_111 : decode cL_sound 111 = .ok (.iadd, 1) := by decide +kernel
theorem dL_sound_112 : decode cL_sound 112 = .ok (.if_icmp .ne 41, 3) := by decide +kernel
theorem dL_sound_115 : decode cL_sound 115 = .ok (.aload_n 0, 1) := by decide +kernel
theorem dL_sound_116 : decode cL_sound 116 = .ok (.bipush 8, 2) := by decide +kernel
theorem dL_sound_118 : decode cL_sound 118 = .ok (.invokevirtual 13, 3) := by decide +kernel
theorem dL_sound_121 : decode cL_sound 121 = .ok (.iload 4, 2) := by decide +kernel
theorem dL_sound_123 : decode cL_sound 123 = .ok (.if_icmp .ne 30, 3) := by decide +kernel
theorem dL_sound_126 : decode cL_sound 126 = .ok (.aload_n 0, 1) := by decide +kernel
theorem dL_sound_127 : decode cL_sound 127 = .ok (.iload 4, 2) := by decide +kernel
theorem dL_sound_129 : decode cL_sound 129 = .ok (.iconst 0, 1) := by decide +kernel
theorem dL_sound_130 : decode cL_sound 130 = .ok (.invokevirtual 41, 3) := by decide +kernel
theorem dL_sound_133 : decode cL_sound 133 = .ok (.ldc 57, 2) := by decide +kernel
theorem dL_sound_135 : decode cL_sound 135 = .ok (.if_icmp .ne 18, 3) := by decide +kernel
theorem dL_sound_138 : decode cL_sound 138 = .ok (.aload_n 0, 1) := by decide +kernel
theorem dL_sound_139 : decode cL_sound 139 = .ok (.bipush 12, 2) := by decide +kernel
theorem dL_sound_141 : decode cL_sound 141 = .ok (.invokevirtual 13, 3) := by decide +kernel
theorem dL_sound_144 : decode cL_sound 144 = .ok (.ldc 49, 2) := by decide +kernel
theorem dL_sound_146 : decode cL_sound 146 = .ok (.if_icmp .ne 7, 3) := by decide +kernel
theorem dL_sound_149 : decode cL_sound 149 = .ok (.iconst 1, 1) := by decide +kernel
theorem dL_sound_150 : decode cL_sound 150 = .ok (.goto 4, 3) := by decide +kernel
theorem dL_sound_153 : decode cL_sound 153 = .ok (.iconst 0, 1) := by decide +kernel
theorem dL_sound_154 : decode cL_sound 154 = .ok (.ireturn, 1) := by decide +kernel
theorem dL_did_0 : decode cL_did 0 = .ok (.aload_n 0, 1) := by decide +kernel
theorem dL_did_1 : decode cL_did 1 = .ok (.iconst 0, 1) := by decide +kernel
theorem dL_did_2 : decode cL_did 2 = .ok (.iconst 0, 1) := by decide +kernel
theorem dL_did_3 : decode cL_did 3 = .ok (.invokevirtual 41, 3) := by decide +kernel
theorem dL_did_6 : decode cL_did 6 = .ok (.istore_n 1, 1) := by decide +kernel
theorem dL_did_7 : decode cL_did 7 = .ok (.aload_n 0, 1) := by decide +kernel
theorem dL_did_8 : decode cL_did 8 = .ok (.iconst 0, 1) := by decide +kernel
theorem dL_did_9 : decode cL_did 9 = .ok (.iconst 1, 1) := by decide +kernel
theorem dL_did_10 : decode cL_did 10 = .ok (.invokevirtual 41, 3) := by decide +kernel
theorem dL_did_13 : decode cL_did 13 = .ok (.istore_n 2, 1) := by decide +kernel
theorem dL_did_14 : decode cL_did 14 = .ok (.aload_n 0, 1) := by decide +kernel
theorem dL_did_15 : decode cL_did 15 = .ok (.iconst 0, 1) := by decide +kernel
theorem dL_did_16 : decode cL_did 16 = .ok (.iconst 3, 1) := by decide +kernel
theorem dL_did_17 : decode cL_did 17 = .ok (.invokevirtual 41, 3) := by decide +kernel
theorem dL_did_20 : decode cL_did 20 = .ok (.istore_n 3, 1) := by decide +kernel
theorem dL_did_21 : decode cL_did 21 = .ok (.iload_n 3, 1) := by decide +kernel
theorem dL_did_22 : decode cL_did 22 = .ok (.ifCond .le 91, 3) := by decide +kernel
theorem dL_did_25 : decode cL_did 25 = .ok (.aload_n 0, 1) := by decide +kernel
theorem dL_did_26 : decode cL_did 26 = .ok (.iconst 0, 1) := by decide +kernel
theorem dL_did_27 : decode cL_did 27 = .ok (.iconst 2, 1) := by decide +kernel
theorem dL_did_28 : decode cL_did 28 = .ok (.invokevirtual 41, 3) := by decide +kernel
theorem dL_did_31 : decode cL_did 31 = .ok (.ldc 57, 2) := by decide +kernel
theorem dL_did_33 : decode cL_did 33 = .ok (.if_icmp .ne 78, 3) := by decide +kernel
theorem dL_did_36 : decode cL_did 36 = .ok (.aload_n 0, 1) := by decide +kernel
theorem dL_did_37 : decode cL_did 37 = .ok (.bipush 9, 2) := by decide +kernel
theorem dL_did_39 : decode cL_did 39 = .ok (.invokevirtual 13, 3) := by decide +kernel
theorem dL_did_42 : decode cL_did 42 = .ok (.iload_n 3, 1) := by decide +kernel
theorem dL_did_43 : decode cL_did 43 = .ok (.if_icmp .ne 68, 3) := by decide +kernel
theorem dL_did_46 : decode cL_did 46 = .ok (.iload_n 1, 1) := by decide +kernel
theorem dL_did_47 : decode cL_did 47 = .ok (.ifCond .ne 21, 3) := by decide +kernel
theorem dL_did_50 : decode cL_did 50 = .ok (.iload_n 3, 1) := by decide +kernel
theorem dL_did_51 : decode cL_did 51 = .ok (.iconst 2, 1) := by decide +kernel
theorem dL_did_52 : decode cL_did 52 = .ok (.if_icmp .ne 59, 3) := by decide +kernel
theorem dL_did_55 : decode cL_did 55 = .ok (.aload_n 0, 1) := by decide +kernel
theorem dL_did_56 : decode cL_did 56 = .ok (.iload_n 2, 1) := by decide +kernel
theorem dL_did_57 : decode cL_did 57 = .ok (.bipush 10, 2) := by decide +kernel
theorem dL_did_59 : decode cL_did 59 = .ok (.invokevirtual 19, 3) := by decide +kernel
theorem dL_did_62 : decode cL_did 62 = .ok (.ifCond .le 49, 3) := by decide +kernel
theorem dL_did_65 : decode cL_did 65 = .ok (.goto 42, 3) := by decide +kernel
theorem dL_did_68 : decode cL_did 68 = .ok (.iload_n 1, 1) := by decide +kernel
theorem dL_did_69 : decode cL_did 69 = .ok (.iconst 1, 1) := by decide +kernel
theorem dL_did_70 : decode cL_did 70 = .ok (.if_icmp .ne 27, 3) := by decide +kernel
theorem dL_did_73 : decode cL_did 73 = .ok (.iload_n 3, 1) := by decide +kernel
theorem dL_did_74 : decode cL_did 74 = .ok (.iconst 3, 1) := by decide +kernel
theorem dL_did_75 : decode cL_did 75 = .ok (.if_icmp .eq 32, 3) := by decide +kernel
theorem dL_did_78 : decode cL_did 78 = .ok (.iload_n 3, 1) := by decide +kernel
theorem dL_did_79 : decode cL_did 79 = .ok (.iconst 4, 1) := by decide +kernel
theorem dL_did_80 : decode cL_did 80 = .ok (.if_icmp .ne 31, 3) := by decide +kernel
theorem dL_did_83 : decode cL_did 83 = .ok (.aload_n 0, 1) := by decide +kernel
theorem dL_did_84 : decode cL_did 84 = .ok (.iload_n 2, 1) := by decide +kernel
theorem dL_did_85 : decode cL_did 85 = .ok (.bipush 8, 2) := by decide +kernel
theorem dL_did_87 : decode cL_did 87 = .ok (.invokevirtual 19, 3) := by decide +kernel
theorem dL_did_90 : decode cL_did 90 = .ok (.iconst 1, 1) := by decide +kernel
theorem dL_did_91 : decode cL_did 91 = .ok (.if_icmp .ne 20, 3) := by decide +kernel
theorem dL_did_94 : decode cL_did 94 = .ok (.goto 13, 3) := by decide +kernel
theorem dL_did_97 : decode cL_did 97 = .ok (.iload_n 3, 1) := by decide +kernel
theorem dL_did_98 : decode cL_did 98 = .ok (.iconst 2, 1) := by decide +kernel
theorem dL_did_99 : decode cL_did 99 = .ok (.if_icmp .eq 8, 3) := by decide +kernel
theorem dL_did_102 : decode cL_did 102 = .ok (.iload_n 3, 1) := by decide +kernel
theorem dL_did_103 : decode cL_did 103 = .ok (.iconst 5, 1) := by decide +kernel
theorem dL_did_104 : decode cL_did 104 = .ok (.if_icmp .ne 7, 3) := by decide +kernel
theorem dL_did_107 : decode cL_did 107 = .ok (.iconst 1, 1) := by decide +kernel
theorem dL_did_108 : decode cL_did 108 = .ok (.goto 4, 3) := by decide +kernel
theorem dL_did_111 : decode cL_did 111 = .ok (.iconst 0, 1) := by decide +kernel
theorem dL_did_112 : decode cL_did 112 = .ok (.ireturn, 1) := by decide +kernel
theorem dL_did_113 : decode cL_did 113 = .ok (.iload_n 1, 1) := by decide +kernel
theorem dL_did_114 : decode cL_did 114 = .ok (.ifCond .ne 34, 3) := by decide +kernel
theorem dL_did_117 : decode cL_did 117 = .ok (.aload_n 0, 1) := by decide +kernel
theorem dL_did_118 : decode cL_did 118 = .ok (.iconst 0, 1) := by decide +kernel
theorem dL_did_119 : decode cL_did 119 = .ok (.iconst 2, 1) := by decide +kernel
theorem dL_did_120 : decode cL_did 120 = .ok (.invokevirtual 41, 3) := by decide +kernel
theorem dL_did_123 : decode cL_did 123 = .ok (.aload_n 0, 1) := by decide +kernel
theorem dL_did_124 : decode cL_did 124 = .ok (.iload_n 2, 1) := by decide +kernel
theorem dL_did_125 : decode cL_did 125 = .ok (.iconst 0, 1) := by decide +kernel
theorem dL_did_126 : decode cL_did 126 = .ok (.invokevirtual 29, 3) := by decide +kernel
theorem dL_did_129 : decode cL_did 129 = .ok (.if_icmp .ne 17, 3) := by decide +kernel
theorem dL_did_132 : decode cL_did 132 = .ok (.aload_n 0, 1) := by decide +kernel
theorem dL_did_133 : decode cL_did 133 = .ok (.iload_n 2, 1) := by decide +kernel
theorem dL_did_134 : decode cL_did 134 = .ok (.bipush 10, 2) := by decide +kernel
theorem dL_did_136 : decode cL_did 136 = .ok (.invokevirtual 19, 3) := by decide +kernel
theorem dL_did_139 : decode cL_did 139 = .ok (.ifCond .ne 7, 3) := by decide +kernel
theorem dL_did_142 : decode cL_did 142 = .ok (.iconst 1, 1) := by decide +kernel
theorem dL_did_143 : decode cL_did 143 = .ok (.goto 4, 3) := by decide +kernel
theorem dL_did_146 : decode cL_did 146 = .ok (.iconst 0, 1) := by decide +kernel
theorem dL_did_147 : decode cL_did 147 = .ok (.ireturn, 1) := by decide +kernel
theorem dL_did_148 : decode cL_did 148 = .ok (.iconst 0, 1) := by decide +kernel
theorem dL_did_149 : decode cL_did 149 = .ok (.istore 4, 2) := by decide +kernel
theorem dL_did_151 : decode cL_did 151 = .ok (.iload 4, 2) := by decide +kernel
theorem dL_did_153 : decode cL_did 153 = .ok (.iconst 3, 1) := by decide +kernel
theorem dL_did_154 : decode cL_did 154 = .ok (.if_icmp .ge 62, 3) := by decide +kernel
theorem dL_did_157 : decode cL_did 157 = .ok (.iload_n 1, 1) := by decide +kernel
theorem dL_did_158 : decode cL_did 158 = .ok (.iconst 1, 1) := by decide +kernel
theorem dL_did_159 : decode cL_did 159 = .ok (.if_icmp .ne 17, 3) := by decide +kernel
theorem dL_did_162 : decode cL_did 162 = .ok (.aload_n 0, 1) := by decide +kernel
theorem dL_did_163 : decode cL_did 163 = .ok (.iload_n 2, 1) := by decide +kernel
theorem dL_did_164 : decode cL_did 164 = .ok (.iload 4, 2) := by decide +kernel
theorem dL_did_166 : decode cL_did 166 = .ok (.iconst 2, 1) := by decide +kernel
theorem dL_did_167 : decode cL_did 167 = .ok (.invokevirtual 23, 3) := by decide +kernel
theorem dL_did_170 : decode cL_did 170 = .ok (.ifCond .eq 40, 3) := by decide +kernel
theorem dL_did_173 : decode cL_did 173 = .ok (.goto 35, 3) := by decide +kernel
theorem dL_did_176 : decode cL_did 176 = .ok (.aload_n 0, 1) := by decide +kernel
theorem dL_did_177 : decode cL_did 177 = .ok (.iload_n 2, 1) := by decide +kernel
theorem dL_did_178 : decode cL_did 178 = .ok (.iload 4, 2) := by decide +kernel
theorem dL_did_180 : decode cL_did 180 = .ok (.iconst 5, 1) := by decide +kernel
theorem dL_did_181 : decode cL_did 181 = .ok (.invokevirtual 23, 3) := by decide +kernel
theorem dL_did_184 : decode cL_did 184 = .ok (.aload_n 0, 1) := by decide +kernel
theorem dL_did_185 : decode cL_did 185 = .ok (.iload_n 2, 1) := by decide +kernel
theorem dL_did_186 : decode cL_did 186 = .ok (.bipush 9, 2) := by decide +kernel
theorem dL_did_188 : decode cL_did 188 = .ok (.invokevirtual 19, 3) := by decide +kernel
theorem dL_did_191 : decode cL_did 191 = .ok (.sipush 1000, 3) := by decide +kernel
theorem dL_did_194 : decode cL_did 194 = .ok (.imul, 1) := by decide +kernel
theorem dL_did_195 : decode cL_did 195 = .ok (.aload_n 0, 1) := by decide +kernel
theorem dL_did_196 : decode cL_did 196 = .ok (.iload_n 2, 1) := by decide +kernel
theorem dL_did_197 : decode cL_did 197 = .ok (.iload 4, 2) := by decide +kernel
theorem dL_did_199 : decode cL_did 199 = .ok (.bipush 7, 2) := by decide +kernel
theorem dL_did_201 : decode cL_did 201 = .ok (.invokevirtual 23, 3) := by decide +kernel
theorem dL_did_204 : decode cL_did 204 = .ok (.idiv, 1) := by decide +kernel
theorem dL_did_205 : decode cL_did 205 = .ok (.if_icmp .eq 5, 3) := by decide +kernel
theorem dL_did_208 : decode cL_did 208 = .ok (.iconst 0, 1) := by decide +kernel
theorem dL_did_209 : decode cL_did 209 = .ok (.ireturn, 1) := by decide +kernel
theorem dL_did_210 : decode cL_did 210 = .ok (.iinc 4 1, 3) := by decide +kernel
theorem dL_did_213 : decode cL_did 213 = .ok (.goto (-62), 3) := by decide +kernel
theorem dL_did_216 : decode cL_did 216 = .ok (.aload_n 0, 1) := by decide +kernel
theorem dL_did_217 : decode cL_did 217 = .ok (.iconst 0, 1) := by decide +kernel
theorem dL_did_218 : decode cL_did 218 = .ok (.iconst 2, 1) := by decide +kernel
theorem dL_did_219 : decode cL_did 219 = .ok (.invokevirtual 41, 3) := by decide +kernel
theorem dL_did_222 : decode cL_did 222 = .ok (.ifCond .lt 17, 3) := by decide +kernel
theorem dL_did_225 : decode cL_did 225 = .ok (.aload_n 0, 1) := by decide +kernel
theorem dL_did_226 : decode cL_did 226 = .ok (.iconst 0, 1) := by decide +kernel
theorem dL_did_227 : decode cL_did 227 = .ok (.iconst 2, 1) := by decide +kernel
theorem dL_did_228 : decode cL_did 228 = .ok (.invokevirtual 41, 3) := by decide +kernel
theorem dL_did_231 : decode cL_did 231 = .ok (.iconst 3, 1) := by decide +kernel
theorem dL_did_232 : decode cL_did 232 = .ok (.if_icmp .gt 7, 3) := by decide +kernel
theorem dL_did_235 : decode cL_did 235 = .ok (.iconst 1, 1) := by decide +kernel
theorem dL_did_236 : decode cL_did 236 = .ok (.goto 4, 3) := by decide +kernel
theorem dL_did_239 : decode cL_did 239 = .ok (.iconst 0, 1) := by decide +kernel
theorem dL_did_240 : decode cL_did 240 = .ok (.ireturn, 1) := by decide +kernel
theorem dL_works_0 : decode cL_works 0 = .ok (.aload_n 0, 1) := by decide +kernel
theorem dL_works_1 : decode cL_works 1 = .ok (.iconst 1, 1) := by decide +kernel
theorem dL_works_2 : decode cL_works 2 = .ok (.invokevirtual 13, 3) := by decide +kernel
theorem dL_works_5 : decode cL_works 5 = .ok (.istore_n 2, 1) := by decide +kernel
theorem dL_works_6 : decode cL_works 6 = .ok (.iload_n 2, 1) := by decide +kernel
theorem dL_works_7 : decode cL_works 7 = .ok (.ifCond .ne 27, 3) := by decide +kernel
theorem dL_works_10 : decode cL_works 10 = .ok (.aload_n 0, 1) := by decide +kernel
theorem dL_works_11 : decode cL_works 11 = .ok (.invokevirtual 76, 3) := by decide +kernel
theorem dL_works_14 : decode cL_works 14 = .ok (.ldc 57, 2) := by decide +kernel
theorem dL_works_16 : decode cL_works 16 = .ok (.if_icmp .ne 16, 3) := by decide +kernel
theorem dL_works_19 : decode cL_works 19 = .ok (.aload_n 0, 1) := by decide +kernel
theorem dL_works_20 : decode cL_works 20 = .ok (.invokevirtual 80, 3) := by decide +kernel
theorem dL_works_23 : decode cL_works 23 = .ok (.ldc 57, 2) := by decide +kernel
theorem dL_works_25 : decode cL_works 25 = .ok (.if_icmp .ne 7, 3) := by decide +kernel
theorem dL_works_28 : decode cL_works 28 = .ok (.iconst 1, 1) := by decide +kernel
theorem dL_works_29 : decode cL_works 29 = .ok (.goto 4, 3) := by decide +kernel
theorem dL_works_32 : decode cL_works 32 = .ok (.iconst 0, 1) := by decide +kernel
theorem dL_works_33 : decode cL_works 33 = .ok (.ireturn, 1) := by decide +kernel
theorem dL_works_34 : decode cL_works 34 = .ok (.aload_n 0, 1) := by decide +kernel
theorem dL_works_35 : decode cL_works 35 = .ok (.iconst 3, 1) := by decide +kernel
theorem dL_works_36 : decode cL_works 36 = .ok (.invokevirtual 13, 3) := by decide +kernel
theorem dL_works_39 : decode cL_works 39 = .ok (.istore_n 3, 1) := by decide +kernel
theorem dL_works_40 : decode cL_works 40 = .ok (.aload_n 0, 1) := by decide +kernel
theorem dL_works_41 : decode cL_works 41 = .ok (.iconst 4, 1) := by decide +kernel
theorem dL_works_42 : decode cL_works 42 = .ok (.invokevirtual 13, 3) := by decide +kernel
theorem dL_works_45 : decode cL_works 45 = .ok (.istore 4, 2) := by decide +kernel
theorem dL_works_47 : decode cL_works 47 = .ok (.aload_n 0, 1) := by decide +kernel
theorem dL_works_48 : decode cL_works 48 = .ok (.bipush 6, 2) := by decide +kernel
theorem dL_works_50 : decode cL_works 50 = .ok (.invokevirtual 13, 3) := by decide +kernel
theorem dL_works_53 : decode cL_works 53 = .ok (.istore 5, 2) := by decide +kernel
theorem dL_works_55 : decode cL_works 55 = .ok (.iload_n 1, 1) := by decide +kernel
theorem dL_works_56 : decode cL_works 56 = .ok (.iconst 1, 1) := by decide +kernel
theorem dL_works_57 : decode cL_works 57 = .ok (.iand, 1) := by decide +kernel
theorem dL_works_58 : decode cL_works 58 = .ok (.ifCond .ne 111, 3) := by decide +kernel
theorem dL_works_61 : decode cL_works 61 = .ok (.aload_n 0, 1) := by decide +kernel
theorem dL_works_62 : decode cL_works 62 = .ok (.iconst 0, 1) := by decide +kernel
theorem dL_works_63 : decode cL_works 63 = .ok (.iconst 0, 1) := by decide +kernel
theorem dL_works_64 : decode cL_works 64 = .ok (.invokevirtual 34, 3) := by decide +kernel
theorem dL_works_67 : decode cL_works 67 = .ok (.istore 6, 2) := by decide +kernel
theorem dL_works_69 : decode cL_works 69 = .ok (.aload_n 0, 1) := by decide +kernel
theorem dL_works_70 : decode cL_works 70 = .ok (.iconst 0, 1) := by decide +kernel
theorem dL_works_71 : decode cL_works 71 = .ok (.iconst 2, 1) := by decide +kernel
theorem dL_works_72 : decode cL_works 72 = .ok (.invokevirtual 34, 3) := by decide +kernel
theorem dL_works_75 : decode cL_works 75 = .ok (.istore 7, 2) := by decide +kernel
theorem dL_works_77 : decode cL_works 77 = .ok (.aload_n 0, 1) := by decide +kernel
theorem dL_works_78 : decode cL_works 78 = .ok (.iconst 0, 1) := by decide +kernel
theorem dL_works_79 : decode cL_works 79 = .ok (.iconst 4, 1) := by decide +kernel
theorem dL_works_80 : decode cL_works 80 = .ok (.invokevirtual 34, 3) := by decide +kernel
theorem dL_works_83 : decode cL_works 83 = .ok (.istore 8, 2) := by decide +kernel
theorem dL_works_85 : decode cL_works 85 = .ok (.aload_n 0, 1) := by decide +kernel
theorem dL_works_86 : decode cL_works 86 = .ok (.invokevirtual 76, 3) := by decide +kernel
theorem dL_works_89 : decode cL_works 89 = .ok (.iload 6, 2) := by decide +kernel
theorem dL_works_91 : decode cL_works 91 = .ok (.if_icmp .ne 76, 3) := by decide +kernel
theorem dL_works_94 : decode cL_works 94 = .ok (.aload_n 0, 1) := by decide +kernel
theorem dL_works_95 : decode cL_works 95 = .ok (.iconst 3, 1) := by decide +kernel
theorem dL_works_96 : decode cL_works 96 = .ok (.invokevirtual 13, 3) := by decide +kernel
theorem dL_works_99 : decode cL_works 99 = .ok (.iload_n 3, 1) := by decide +kernel
theorem dL_works_100 : decode cL_works 100 = .ok (.iconst 1, 1) := by decide +kernel
theorem dL_works_101 : decode cL_works 101 = .ok (.iadd, 1) := by decide +kernel
theorem dL_works_102 : decode cL_works 102 = .ok (.if_icmp .ne 65, 3) := by decide +kernel
theorem dL_works_105 : decode cL_works 105 = .ok (.aload_n 0, 1) := by decide +kernel
theorem dL_works_106 : decode cL_works 106 = .ok (.iconst 1, 1) := by decide +kernel
theorem dL_works_107 : decode cL_works 107 = .ok (.invokevirtual 13, 3) := by decide +kernel
theorem dL_works_110 : decode cL_works 110 = .ok (.iload_n 2, 1) := by decide +kernel
theorem dL_works_111 : decode cL_works 111 = .ok (.iconst 1, 1) := by decide +kernel
theorem dL_works_112 : decode cL_works 112 = .ok (.isub, 1) := by decide +kernel
theorem dL_works_113 : decode cL_works 113 = .ok (.if_icmp .ne 54, 3) := by decide +kernel
theorem dL_works_116 : decode cL_works 116 = .ok (.aload_n 0, 1) := by decide +kernel
theorem dL_works_117 : decode cL_works 117 = .ok (.bipush 6, 2) := by decide +kernel
theorem dL_works_119 : decode cL_works 119 = .ok (.invokevirtual 13, 3) := by decide +kernel
theorem dL_works_122 : decode cL_works 122 = .ok (.iload 5, 2) := by decide +kernel
theorem dL_works_124 : decode cL_works 124 = .ok (.iload 8, 2) := by decide +kernel
theorem dL_works_126 : decode cL_works 126 = .ok (.iadd, 1) := by decide +kernel
theorem dL_works_127 : decode cL_works 127 = .ok (.if_icmp .ne 40, 3) := by decide +kernel
theorem dL_works_130 : decode cL_works 130 = .ok (.aload_n 0, 1) := by decide +kernel
theorem dL_works_131 : decode cL_works 131 = .ok (.iconst 5, 1) := by decide +kernel
theorem dL_works_132 : decode cL_works 132 = .ok (.invokevirtual 13, 3) := by decide +kernel
theorem dL_works_135 : decode cL_works 135 = .ok (.aload_n 0, 1) := by decide +kernel
theorem dL_works_136 : decode cL_works 136 = .ok (.iload 7, 2) := by decide +kernel
theorem dL_works_138 : decode cL_works 138 = .ok (.iconst 0, 1) := by decide +kernel
theorem dL_works_139 : decode cL_works 139 = .ok (.invokevirtual 19, 3) := by decide +kernel
theorem dL_works_142 : decode cL_works 142 = .ok (.if_icmp .ne 25, 3) := by decide +kernel
theorem dL_works_145 : decode cL_works 145 = .ok (.aload_n 0, 1) := by decide +kernel
theorem dL_works_146 : decode cL_works 146 = .ok (.iconst 0, 1) := by decide +kernel
theorem dL_works_147 : decode cL_works 147 = .ok (.iconst 1, 1) := by decide +kernel
theorem dL_works_148 : decode cL_works 148 = .ok (.invokevirtual 41, 3) := by decide +kernel
theorem dL_works_151 : decode cL_works 151 = .ok (.iload 7, 2) := by decide +kernel
theorem dL_works_153 : decode cL_works 153 = .ok (.if_icmp .ne 14, 3) := by decide +kernel
theorem dL_works_156 : decode cL_works 156 = .ok (.aload_n 0, 1) := by decide +kernel
theorem dL_works_157 : decode cL_works 157 = .ok (.invokestatic 83, 3) := by decide +kernel
theorem dL_works_160 : decode cL_works 160 = .ok (.ifCond .eq 7, 3) := by decide +kernel
theorem dL_works_163 : decode cL_works 163 = .ok (.iconst 1, 1) := by decide +kernel
theorem dL_works_164 : decode cL_works 164 = .ok (.goto 4, 3) := by decide +kernel
theorem dL_works_167 : decode cL_works 167 = .ok (.iconst 0, 1) := by decide +kernel
theorem dL_works_168 : decode cL_works 168 = .ok (.ireturn, 1) := by decide +kernel
theorem dL_works_169 : decode cL_works 169 = .ok (.aload_n 0, 1) := by decide +kernel
theorem dL_works_170 : decode cL_works 170 = .ok (.iload_n 2, 1) := by decide +kernel
theorem dL_works_171 : decode cL_works 171 = .ok (.iconst 1, 1) := by decide +kernel
theorem dL_works_172 : decode cL_works 172 = .ok (.isub, 1) := by decide +kernel
theorem dL_works_173 : decode cL_works 173 = .ok (.iconst 2, 1) := by decide +kernel
theorem dL_works_174 : decode cL_works 174 = .ok (.invokevirtual 34, 3) := by decide +kernel
theorem dL_works_177 : decode cL_works 177 = .ok (.istore 6, 2) := by decide +kernel
theorem dL_works_179 : decode cL_works 179 = .ok (.aload_n 0, 1) := by decide +kernel
theorem dL_works_180 : decode cL_works 180 = .ok (.iload_n 2, 1) := by decide +kernel
theorem dL_works_181 : decode cL_works 181 = .ok (.iconst 1, 1) := by decide +kernel
theorem dL_works_182 : decode cL_works 182 = .ok (.isub, 1) := by decide +kernel
theorem dL_works_183 : decode cL_works 183 = .ok (.iconst 4, 1) := by decide +kernel
theorem dL_works_184 : decode cL_works 184 = .ok (.invokevirtual 34, 3) := by decide +kernel
theorem dL_works_187 : decode cL_works 187 = .ok (.istore 7, 2) := by decide +kernel
theorem dL_works_189 : decode cL_works 189 = .ok (.aload_n 0, 1) := by decide +kernel
theorem dL_works_190 : decode cL_works 190 = .ok (.invokevirtual 80, 3) := by decide +kernel
theorem dL_works_193 : decode cL_works 193 = .ok (.istore 8, 2) := by decide +kernel
theorem dL_works_195 : decode cL_works 195 = .ok (.aload_n 0, 1) := by decide +kernel
theorem dL_works_196 : decode cL_works 196 = .ok (.iconst 3, 1) := by decide +kernel
theorem dL_works_197 : decode cL_works 197 = .ok (.invokevirtual 13, 3) := by decide +kernel
theorem dL_works_200 : decode cL_works 200 = .ok (.iload_n 3, 1) := by decide +kernel
theorem dL_works_201 : decode cL_works 201 = .ok (.iload_n 2, 1) := by decide +kernel
theorem dL_works_202 : decode cL_works 202 = .ok (.iadd, 1) := by decide +kernel
theorem dL_works_203 : decode cL_works 203 = .ok (.if_icmp .ne 77, 3) := by decide +kernel
theorem dL_works_206 : decode cL_works 206 = .ok (.aload_n 0, 1) := by decide +kernel
theorem dL_works_207 : decode cL_works 207 = .ok (.iconst 1, 1) := by decide +kernel
theorem dL_works_208 : decode cL_works 208 = .ok (.invokevirtual 13, 3) := by decide +kernel
theorem dL_works_211 : decode cL_works 211 = .ok (.ifCond .ne 69, 3) := by decide +kernel
theorem dL_works_214 : decode cL_works 214 = .ok (.aload_n 0, 1) := by decide +kernel
theorem dL_works_215 : decode cL_works 215 = .ok (.bipush 6, 2) := by decide +kernel
theorem dL_works_217 : decode cL_works 217 = .ok (.invokevirtual 13, 3) := by decide +kernel
theorem dL_works_220 : decode cL_works 220 = .ok (.iload 5, 2) := by decide +kernel
theorem dL_works_222 : decode cL_works 222 = .ok (.iload 7, 2) := by decide +kernel
theorem dL_works_224 : decode cL_works 224 = .ok (.iadd, 1) := by decide +kernel
theorem dL_works_225 : decode cL_works 225 = .ok (.if_icmp .ne 55, 3) := by decide +kernel
theorem dL_works_228 : decode cL_works 228 = .ok (.aload_n 0, 1) := by decide +kernel
theorem dL_works_229 : decode cL_works 229 = .ok (.iconst 5, 1) := by decide +kernel
theorem dL_works_230 : decode cL_works 230 = .ok (.invokevirtual 13, 3) := by decide +kernel
theorem dL_works_233 : decode cL_works 233 = .ok (.aload_n 0, 1) := by decide +kernel
theorem dL_works_234 : decode cL_works 234 = .ok (.iload 6, 2) := by decide +kernel
theorem dL_works_236 : decode cL_works 236 = .ok (.iconst 0, 1) := by decide +kernel
theorem dL_works_237 : decode cL_works 237 = .ok (.invokevirtual 19, 3) := by decide +kernel
theorem dL_works_240 : decode cL_works 240 = .ok (.if_icmp .ne 40, 3) := by decide +kernel
theorem dL_works_243 : decode cL_works 243 = .ok (.aload_n 0, 1) := by decide +kernel
theorem dL_works_244 : decode cL_works 244 = .ok (.iconst 4, 1) := by decide +kernel
theorem dL_works_245 : decode cL_works 245 = .ok (.invokevirtual 13, 3) := by decide +kernel
theorem dL_works_248 : decode cL_works 248 = .ok (.iload 4, 2) := by decide +kernel
theorem dL_works_250 : decode cL_works 250 = .ok (.iload_n 2, 1) := by decide +kernel
theorem dL_works_251 : decode cL_works 251 = .ok (.iadd, 1) := by decide +kernel
theorem dL_works_252 : decode cL_works 252 = .ok (.iload 8, 2) := by decide +kernel
theorem dL_works_254 : decode cL_works 254 = .ok (.isub, 1) := by decide +kernel
theorem dL_works_255 : decode cL_works 255 = .ok (.if_icmp .ne 25, 3) := by decide +kernel
theorem dL_works_258 : decode cL_works 258 = .ok (.aload_n 0, 1) := by decide +kernel
theorem dL_works_259 : decode cL_works 259 = .ok (.iconst 0, 1) := by decide +kernel
theorem dL_works_260 : decode cL_works 260 = .ok (.iconst 1, 1) := by decide +kernel
theorem dL_works_261 : decode cL_works 261 = .ok (.invokevirtual 41, 3) := by decide +kernel
theorem dL_works_264 : decode cL_works 264 = .ok (.iload 6, 2) := by decide +kernel
theorem dL_works_266 : decode cL_works 266 = .ok (.if_icmp .ne 14, 3) := by decide +kernel
theorem dL_works_269 : decode cL_works 269 = .ok (.aload_n 0, 1) := by decide +kernel
theorem dL_works_270 : decode cL_works 270 = .ok (.invokestatic 83, 3) := by decide +kernel
theorem dL_works_273 : decode cL_works 273 = .ok (.ifCond .eq 7, 3) := by decide +kernel
theorem dL_works_276 : decode cL_works 276 = .ok (.iconst 1, 1) := by decide +kernel
theorem dL_works_277 : decode cL_works 277 = .ok (.goto 4, 3) := by decide +kernel
theorem dL_works_280 : decode cL_works 280 = .ok (.iconst 0, 1) := by decide +kernel
theorem dL_works_281 : decode cL_works 281 = .ok (.ireturn, 1) := by decide +kernel
theorem dL_sets_0 : decode cL_sets 0 = .ok (.iload_n 2, 1) := by decide +kernel
theorem dL_sets_1 : decode cL_sets 1 = .ok (.aload_n 0, 1) := by decide +kernel
theorem dL_sets_2 : decode cL_sets 2 = .ok (.iconst 0, 1) := by decide +kernel
theorem dL_sets_3 : decode cL_sets 3 = .ok (.invokevirtual 13, 3) := by decide +kernel
theorem dL_sets_6 : decode cL_sets 6 = .ok (.invokestatic 86, 3) := by decide +kernel
theorem dL_sets_9 : decode cL_sets 9 = .ok (.istore 4, 2) := by decide +kernel
theorem dL_sets_11 : decode cL_sets 11 = .ok (.iload_n 1, 1) := by decide +kernel
theorem dL_sets_12 : decode cL_sets 12 = .ok (.iconst 1, 1) := by decide +kernel
theorem dL_sets_13 : decode cL_sets 13 = .ok (.if_icmp .ne 139, 3) := by decide +kernel
theorem dL_sets_16 : decode cL_sets 16 = .ok (.iload_n 3, 1) := by decide +kernel
theorem dL_sets_17 : decode cL_sets 17 = .ok (.sipush 10001, 3) := by decide +kernel
theorem dL_sets_20 : decode cL_sets 20 = .ok (.invokestatic 86, 3) := by decide +kernel
theorem dL_sets_23 : decode cL_sets 23 = .ok (.sipush 5000, 3) := by decide +kernel
theorem dL_sets_26 : decode cL_sets 26 = .ok (.isub, 1) := by decide +kernel
theorem dL_sets_27 : decode cL_sets 27 = .ok (.istore 5, 2) := by decide +kernel
theorem dL_sets_29 : decode cL_sets 29 = .ok (.iload_n 3, 1) := by decide +kernel
theorem dL_sets_30 : decode cL_sets 30 = .ok (.iconst 5, 1) := by decide +kernel
theorem dL_sets_31 : decode cL_sets 31 = .ok (.ishr, 1) := by decide +kernel
theorem dL_sets_32 : decode cL_sets 32 = .ok (.sipush 10001, 3) := by decide +kernel
theorem dL_sets_35 : decode cL_sets 35 = .ok (.invokestatic 86, 3) := by decide +kernel
theorem dL_sets_38 : decode cL_sets 38 = .ok (.sipush 5000, 3) := by decide +kernel
theorem dL_sets_41 : decode cL_sets 41 = .ok (.isub, 1) := by decide +kernel
theorem dL_sets_42 : decode cL_sets 42 = .ok (.istore 6, 2) := by decide +kernel
theorem dL_sets_44 : decode cL_sets 44 = .ok (.iload_n 3, 1) := by decide +kernel
theorem dL_sets_45 : decode cL_sets 45 = .ok (.bipush 9, 2) := by decide +kernel
theorem dL_sets_47 : decode cL_sets 47 = .ok (.ishr, 1) := by decide +kernel
theorem dL_sets_48 : decode cL_sets 48 = .ok (.sipush 10001, 3) := by decide +kernel
theorem dL_sets_51 : decode cL_sets 51 = .ok (.invokestatic 86, 3) := by decide +kernel
theorem dL_sets_54 : decode cL_sets 54 = .ok (.sipush 5000, 3) := by decide +kernel
theorem dL_sets_57 : decode cL_sets 57 = .ok (.isub, 1) := by decide +kernel
theorem dL_sets_58 : decode cL_sets 58 = .ok (.istore 7, 2) := by decide +kernel
theorem dL_sets_60 : decode cL_sets 60 = .ok (.aload_n 0, 1) := by decide +kernel
theorem dL_sets_61 : decode cL_sets 61 = .ok (.iload 4, 2) := by decide +kernel
theorem dL_sets_63 : decode cL_sets 63 = .ok (.iload 5, 2) := by decide +kernel
theorem dL_sets_65 : decode cL_sets 65 = .ok (.iload 6, 2) := by decide +kernel
theorem dL_sets_67 : decode cL_sets 67 = .ok (.iload 7, 2) := by decide +kernel
theorem dL_sets_69 : decode cL_sets 69 = .ok (.invokevirtual 89, 3) := by decide +kernel
theorem dL_sets_72 : decode cL_sets 72 = .ok (.istore 8, 2) := by decide +kernel
theorem dL_sets_74 : decode cL_sets 74 = .ok (.iload 8, 2) := by decide +kernel
theorem dL_sets_76 : decode cL_sets 76 = .ok (.ldc 57, 2) := by decide +kernel
theorem dL_sets_78 : decode cL_sets 78 = .ok (.if_icmp .eq 14, 3) := by decide +kernel
theorem dL_sets_81 : decode cL_sets 81 = .ok (.iload 8, 2) := by decide +kernel
theorem dL_sets_83 : decode cL_sets 83 = .ok (.ifCond .lt 67, 3) := by decide +kernel
theorem dL_sets_86 : decode cL_sets 86 = .ok (.iload 8, 2) := by decide +kernel
theorem dL_sets_88 : decode cL_sets 88 = .ok (.iconst 3, 1) := by decide +kernel
theorem dL_sets_89 : decode cL_sets 89 = .ok (.if_icmp .gt 61, 3) := by decide +kernel
theorem dL_sets_92 : decode cL_sets 92 = .ok (.aload_n 0, 1) := by decide +kernel
theorem dL_sets_93 : decode cL_sets 93 = .ok (.iload 4, 2) := by decide +kernel
theorem dL_sets_95 : decode cL_sets 95 = .ok (.iconst 5, 1) := by decide +kernel
theorem dL_sets_96 : decode cL_sets 96 = .ok (.invokevirtual 19, 3) := by decide +kernel
theorem dL_sets_99 : decode cL_sets 99 = .ok (.iload 5, 2) := by decide +kernel
theorem dL_sets_101 : decode cL_sets 101 = .ok (.if_icmp .ne 49, 3) := by decide +kernel
theorem dL_sets_104 : decode cL_sets 104 = .ok (.aload_n 0, 1) := by decide +kernel
theorem dL_sets_105 : decode cL_sets 105 = .ok (.iload 4, 2) := by decide +kernel
theorem dL_sets_107 : decode cL_sets 107 = .ok (.bipush 6, 2) := by decide +kernel
theorem dL_sets_109 : decode cL_sets 109 = .ok (.invokevirtual 19, 3) := by decide +kernel
theorem dL_sets_112 : decode cL_sets 112 = .ok (.iload 6, 2) := by decide +kernel
theorem dL_sets_114 : decode cL_sets 114 = .ok (.if_icmp .ne 36, 3) := by decide +kernel
theorem dL_sets_117 : decode cL_sets 117 = .ok (.aload_n 0, 1) := by decide +kernel
theorem dL_sets_118 : decode cL_sets 118 = .ok (.iload 4, 2) := by decide +kernel
theorem dL_sets_120 : decode cL_sets 120 = .ok (.bipush 7, 2) := by decide +kernel
theorem dL_sets_122 : decode cL_sets 122 = .ok (.invokevirtual 19, 3) := by decide +kernel
theorem dL_sets_125 : decode cL_sets 125 = .ok (.iload 7, 2) := by decide +kernel
theorem dL_sets_127 : decode cL_sets 127 = .ok (.if_icmp .ne 23, 3) := by decide +kernel
theorem dL_sets_130 : decode cL_sets 130 = .ok (.aload_n 0, 1) := by decide +kernel
theorem dL_sets_131 : decode cL_sets 131 = .ok (.iload 4, 2) := by decide +kernel
theorem dL_sets_133 : decode cL_sets 133 = .ok (.sipush 5001, 3) := by decide +kernel
theorem dL_sets_136 : decode cL_sets 136 = .ok (.iconst 0, 1) := by decide +kernel
theorem dL_sets_137 : decode cL_sets 137 = .ok (.iconst 0, 1) := by decide +kernel
theorem dL_sets_138 : decode cL_sets 138 = .ok (.invokevirtual 89, 3) := by decide +kernel
theorem dL_sets_141 : decode cL_sets 141 = .ok (.ldc 49, 2) := by decide +kernel
theorem dL_sets_143 : decode cL_sets 143 = .ok (.if_icmp .ne 7, 3) := by decide +kernel
theorem dL_sets_146 : decode cL_sets 146 = .ok (.iconst 1, 1) := by decide +kernel
theorem dL_sets_147 : decode cL_sets 147 = .ok (.goto 4, 3) := by decide +kernel
theorem dL_sets_150 : decode cL_sets 150 = .ok (.iconst 0, 1) := by decide +kernel
theorem dL_sets_151 : decode cL_sets 151 = .ok (.ireturn, 1) := by decide +kernel
theorem dL_sets_152 : decode cL_sets 152 = .ok (.iload_n 1, 1) := by decide +kernel
theorem dL_sets_153 : decode cL_sets 153 = .ok (.iconst 2, 1) := by decide +kernel
theorem dL_sets_154 : decode cL_sets 154 = .ok (.if_icmp .ne 88, 3) := by decide +kernel
theorem dL_sets_157 : decode cL_sets 157 = .ok (.aload_n 0, 1) := by decide +kernel
theorem dL_sets_158 : decode cL_sets 158 = .ok (.iload 4, 2) := by decide +kernel
theorem dL_sets_160 : decode cL_sets 160 = .ok (.iconst 4, 1) := by decide +kernel
theorem dL_sets_161 : decode cL_sets 161 = .ok (.invokevirtual 19, 3) := by decide +kernel
theorem dL_sets_164 : decode cL_sets 164 = .ok (.istore 5, 2) := by decide +kernel
theorem dL_sets_166 : decode cL_sets 166 = .ok (.iload_n 3, 1) := by decide +kernel
theorem dL_sets_167 : decode cL_sets 167 = .ok (.iconst 3, 1) := by decide +kernel
theorem dL_sets_168 : decode cL_sets 168 = .ok (.iand, 1) := by decide +kernel
theorem dL_sets_169 : decode cL_sets 169 = .ok (.ifCond .ne 7, 3) := by decide +kernel
theorem dL_sets_172 : decode cL_sets 172 = .ok (.iconst 0, 1) := by decide +kernel
theorem dL_sets_173 : decode cL_sets 173 = .ok (.goto 12, 3) := by decide +kernel
theorem dL_sets_176 : decode cL_sets 176 = .ok (.iload_n 3, 1) := by decide +kernel
theorem dL_sets_177 : decode cL_sets 177 = .ok (.iconst 2, 1) := by decide +kernel
theorem dL_sets_178 : decode cL_sets 178 = .ok (.ishr, 1) := by decide +kernel
theorem dL_sets_179 : decode cL_sets 179 = .ok (.sipush 20001, 3) := by decide +kernel
theorem dL_sets_182 : decode cL_sets 182 = .ok (.invokestatic 86, 3) := by decide +kernel
theorem dL_sets_185 : decode cL_sets 185 = .ok (.istore 6, 2) := by decide +kernel
theorem dL_sets_187 : decode cL_sets 187 = .ok (.aload_n 0, 1) := by decide +kernel
theorem dL_sets_188 : decode cL_sets 188 = .ok (.iload 4, 2) := by decide +kernel
theorem dL_sets_190 : decode cL_sets 190 = .ok (.iload 6, 2) := by decide +kernel
theorem dL_sets_192 : decode cL_sets 192 = .ok (.invokevirtual 93, 3) := by decide +kernel
theorem dL_sets_195 : decode cL_sets 195 = .ok (.iload 5, 2) := by decide +kernel
theorem dL_sets_197 : decode cL_sets 197 = .ok (.iload 6, 2) := by decide +kernel
theorem dL_sets_199 : decode cL_sets 199 = .ok (.if_icmp .ne 8, 3) := by decide +kernel
theorem dL_sets_202 : decode cL_sets 202 = .ok (.ldc 57, 2) := by decide +kernel
theorem dL_sets_204 : decode cL_sets 204 = .ok (.goto 5, 3) := by decide +kernel
theorem dL_sets_207 : decode cL_sets 207 = .ok (.iload 5, 2) := by decide +kernel
theorem dL_sets_209 : decode cL_sets 209 = .ok (.if_icmp .ne 31, 3) := by decide +kernel
theorem dL_sets_212 : decode cL_sets 212 = .ok (.aload_n 0, 1) := by decide +kernel
theorem dL_sets_213 : decode cL_sets 213 = .ok (.iload 4, 2) := by decide +kernel
theorem dL_sets_215 : decode cL_sets 215 = .ok (.iconst 4, 1) := by decide +kernel
theorem dL_sets_216 : decode cL_sets 216 = .ok (.invokevirtual 19, 3) := by decide +kernel
theorem dL_sets_219 : decode cL_sets 219 = .ok (.iload 6, 2) := by decide +kernel
theorem dL_sets_221 : decode cL_sets 221 = .ok (.if_icmp .ne 19, 3) := by decide +kernel
theorem dL_sets_224 : decode cL_sets 224 = .ok (.aload_n 0, 1) := by decide +kernel
theorem dL_sets_225 : decode cL_sets 225 = .ok (.iload 4, 2) := by decide +kernel
theorem dL_sets_227 : decode cL_sets 227 = .ok (.iconst (-1), 1) := by decide +kernel
theorem dL_sets_228 : decode cL_sets 228 = .ok (.invokevirtual 93, 3) := by decide +kernel
theorem dL_sets_231 : decode cL_sets 231 = .ok (.ldc 49, 2) := by decide +kernel
theorem dL_sets_233 : decode cL_sets 233 = .ok (.if_icmp .ne 7, 3) := by decide +kernel
theorem dL_sets_236 : decode cL_sets 236 = .ok (.iconst 1, 1) := by decide +kernel
theorem dL_sets_237 : decode cL_sets 237 = .ok (.goto 4, 3) := by decide +kernel
theorem dL_sets_240 : decode cL_sets 240 = .ok (.iconst 0, 1) := by decide +kernel
theorem dL_sets_241 : decode cL_sets 241 = .ok (.ireturn, 1) := by decide +kernel
theorem dL_sets_242 : decode cL_sets 242 = .ok (.iload_n 1, 1) := by decide +kernel
theorem dL_sets_243 : decode cL_sets 243 = .ok (.iconst 3, 1) := by decide +kernel
theorem dL_sets_244 : decode cL_sets 244 = .ok (.if_icmp .ne 96, 3) := by decide +kernel
theorem dL_sets_247 : decode cL_sets 247 = .ok (.iload_n 3, 1) := by decide +kernel
theorem dL_sets_248 : decode cL_sets 248 = .ok (.iconst 3, 1) := by decide +kernel
theorem dL_sets_249 : decode cL_sets 249 = .ok (.invokestatic 86, 3) := by decide +kernel
theorem dL_sets_252 : decode cL_sets 252 = .ok (.istore 5, 2) := by decide +kernel
theorem dL_sets_254 : decode cL_sets 254 = .ok (.aload_n 0, 1) := by decide +kernel
theorem dL_sets_255 : decode cL_sets 255 = .ok (.iload 4, 2) := by decide +kernel
theorem dL_sets_257 : decode cL_sets 257 = .ok (.iload 5, 2) := by decide +kernel
theorem dL_sets_259 : decode cL_sets 259 = .ok (.iconst 0, 1) := by decide +kernel
theorem dL_sets_260 : decode cL_sets 260 = .ok (.invokevirtual 23, 3) := by decide +kernel
theorem dL_sets_263 : decode cL_sets 263 = .ok (.istore 6, 2) := by decide +kernel
theorem dL_sets_265 : decode cL_sets 265 = .ok (.iload_n 3, 1) := by decide +kernel
theorem dL_sets_266 : decode cL_sets 266 = .ok (.iconst 2, 1) := by decide +kernel
theorem dL_sets_267 : decode cL_sets 267 = .ok (.ishr, 1) := by decide +kernel
theorem dL_sets_268 : decode cL_sets 268 = .ok (.sipush 19999, 3) := by decide +kernel
theorem dL_sets_271 : decode cL_sets 271 = .ok (.invokestatic 86, 3) := by decide +kernel
theorem dL_sets_274 : decode cL_sets 274 = .ok (.sipush 9999, 3) := by decide +kernel
theorem dL_sets_277 : decode cL_sets 277 = .ok (.isub, 1) := by decide +kernel
theorem dL_sets_278 : decode cL_sets 278 = .ok (.istore 7, 2) := by decide +kernel
theorem dL_sets_280 : decode cL_sets 280 = .ok (.aload_n 0, 1) := by decide +kernel
theorem dL_sets_281 : decode cL_sets 281 = .ok (.iload 4, 2) := by decide +kernel
theorem dL_sets_283 : decode cL_sets 283 = .ok (.iload 5, 2) := by decide +kernel
theorem dL_sets_285 : decode cL_sets 285 = .ok (.iload 7, 2) := by decide +kernel
theorem dL_sets_287 : decode cL_sets 287 = .ok (.invokevirtual 96, 3) := by decide +kernel
theorem dL_sets_290 : decode cL_sets 290 = .ok (.iload 6, 2) := by decide +kernel
theorem dL_sets_292 : decode cL_sets 292 = .ok (.iload 7, 2) := by decide +kernel
theorem dL_sets_294 : decode cL_sets 294 = .ok (.if_icmp .ne 8, 3) := by decide +kernel
theorem dL_sets_297 : decode cL_sets 297 = .ok (.ldc 57, 2) := by decide +kernel
theorem dL_sets_299 : decode cL_sets 299 = .ok (.goto 5, 3) := by decide +kernel
theorem dL_sets_302 : decode cL_sets 302 = .ok (.iload 6, 2) := by decide +kernel
theorem dL_sets_304 : decode cL_sets 304 = .ok (.if_icmp .ne 34, 3) := by decide +kernel
theorem dL_sets_307 : decode cL_sets 307 = .ok (.aload_n 0, 1) := by decide +kernel
theorem dL_sets_308 : decode cL_sets 308 = .ok (.iload 4, 2) := by decide +kernel
theorem dL_sets_310 : decode cL_sets 310 = .ok (.iload 5, 2) := by decide +kernel
theorem dL_sets_312 : decode cL_sets 312 = .ok (.iconst 0, 1) := by decide +kernel
theorem dL_sets_313 : decode cL_sets 313 = .ok (.invokevirtual 23, 3) := by decide +kernel
theorem dL_sets_316 : decode cL_sets 316 = .ok (.iload 7, 2) := by decide +kernel
theorem dL_sets_318 : decode cL_sets 318 = .ok (.if_icmp .ne 20, 3) := by decide +kernel
theorem dL_sets_321 : decode cL_sets 321 = .ok (.aload_n 0, 1) := by decide +kernel
theorem dL_sets_322 : decode cL_sets 322 = .ok (.iload 4, 2) := by decide +kernel
theorem dL_sets_324 : decode cL_sets 324 = .ok (.iconst 3, 1) := by decide +kernel
theorem dL_sets_325 : decode cL_sets 325 = .ok (.iconst 0, 1) := by decide +kernel
theorem dL_sets_326 : decode cL_sets 326 = .ok (.invokevirtual 96, 3) := by decide +kernel
theorem dL_sets_329 : decode cL_sets 329 = .ok (.ldc 56, 2) := by decide +kernel
theorem dL_sets_331 : decode cL_sets 331 = .ok (.if_icmp .ne 7, 3) := by decide +kernel
theorem dL_sets_334 : decode cL_sets 334 = .ok (.iconst 1, 1) := by decide +kernel
theorem dL_sets_335 : decode cL_sets 335 = .ok (.goto 4, 3) := by decide +kernel
theorem dL_sets_338 : decode cL_sets 338 = .ok (.iconst 0, 1) := by decide +kernel
theorem dL_sets_339 : decode cL_sets 339 = .ok (.ireturn, 1) := by decide +kernel
theorem dL_sets_340 : decode cL_sets 340 = .ok (.iload_n 1, 1) := by decide +kernel
theorem dL_sets_341 : decode cL_sets 341 = .ok (.iconst 4, 1) := by decide +kernel
theorem dL_sets_342 : decode cL_sets 342 = .ok (.if_icmp .ne 81, 3) := by decide +kernel
theorem dL_sets_345 : decode cL_sets 345 = .ok (.aload_n 0, 1) := by decide +kernel
theorem dL_sets_346 : decode cL_sets 346 = .ok (.iload 4, 2) := by decide +kernel
theorem dL_sets_348 : decode cL_sets 348 = .ok (.bipush 8, 2) := by decide +kernel
theorem dL_sets_350 : decode cL_sets 350 = .ok (.invokevirtual 19, 3) := by decide +kernel
theorem dL_sets_353 : decode cL_sets 353 = .ok (.istore 5, 2) := by decide +kernel
theorem dL_sets_355 : decode cL_sets 355 = .ok (.iload_n 3, 1) := by decide +kernel
theorem dL_sets_356 : decode cL_sets 356 = .ok (.iconst 1, 1) := by decide +kernel
theorem dL_sets_357 : decode cL_sets 357 = .ok (.iand, 1) := by decide +kernel
theorem dL_sets_358 : decode cL_sets 358 = .ok (.istore 6, 2) := by decide +kernel
theorem dL_sets_360 : decode cL_sets 360 = .ok (.aload_n 0, 1) := by decide +kernel
theorem dL_sets_361 : decode cL_sets 361 = .ok (.iload 4, 2) := by decide +kernel
theorem dL_sets_363 : decode cL_sets 363 = .ok (.iload 6, 2) := by decide +kernel
theorem dL_sets_365 : decode cL_sets 365 = .ok (.iconst 1, 1) := by decide +kernel
theorem dL_sets_366 : decode cL_sets 366 = .ok (.if_icmp .ne 7, 3) := by decide +kernel
theorem dL_sets_369 : decode cL_sets 369 = .ok (.iconst 1, 1) := by decide +kernel
theorem dL_sets_370 : decode cL_sets 370 = .ok (.goto 4, 3) := by decide +kernel
theorem dL_sets_373 : decode cL_sets 373 = .ok (.iconst 0, 1) := by decide +kernel
theorem dL_sets_374 : decode cL_sets 374 = .ok (.invokevirtual 99, 3) := by decide +kernel
theorem dL_sets_377 : decode cL_sets 377 = .ok (.istore 7, 2) := by decide +kernel
theorem dL_sets_379 : decode cL_sets 379 = .ok (.iload 7, 2) := by decide +kernel
theorem dL_sets_381 : decode cL_sets 381 = .ok (.iload 5, 2) := by decide +kernel
theorem dL_sets_383 : decode cL_sets 383 = .ok (.iload 6, 2) := by decide +kernel
theorem dL_sets_385 : decode cL_sets 385 = .ok (.if_icmp .ne 8, 3) := by decide +kernel
theorem dL_sets_388 : decode cL_sets 388 = .ok (.ldc 57, 2) := by decide +kernel
theorem dL_sets_390 : decode cL_sets 390 = .ok (.goto 11, 3) := by decide +kernel
theorem dL_sets_393 : decode cL_sets 393 = .ok (.aload_n 0, 1) := by decide +kernel
theorem dL_sets_394 : decode cL_sets 394 = .ok (.iload 4, 2) := by decide +kernel
theorem dL_sets_396 : decode cL_sets 396 = .ok (.iconst 0, 1) := by decide +kernel
theorem dL_sets_397 : decode cL_sets 397 = .ok (.iconst 3, 1) := by decide +kernel
theorem dL_sets_398 : decode cL_sets 398 = .ok (.invokevirtual 23, 3) := by decide +kernel
theorem dL_sets_401 : decode cL_sets 401 = .ok (.if_icmp .ne 20, 3) := by decide +kernel
theorem dL_sets_404 : decode cL_sets 404 = .ok (.aload_n 0, 1) := by decide +kernel
theorem dL_sets_405 : decode cL_sets 405 = .ok (.iload 4, 2) := by decide +kernel
theorem dL_sets_407 : decode cL_sets 407 = .ok (.bipush 8, 2) := by decide +kernel
theorem dL_sets_409 : decode cL_sets 409 = .ok (.invokevirtual 19, 3) := by decide +kernel
theorem dL_sets_412 : decode cL_sets 412 = .ok (.iload 6, 2) := by decide +kernel
theorem dL_sets_414 : decode cL_sets 414 = .ok (.if_icmp .ne 7, 3) := by decide +kernel
theorem dL_sets_417 : decode cL_sets 417 = .ok (.iconst 1, 1) := by decide +kernel
theorem dL_sets_418 : decode cL_sets 418 = .ok (.goto 4, 3) := by decide +kernel
theorem dL_sets_421 : decode cL_sets 421 = .ok (.iconst 0, 1) := by decide +kernel
theorem dL_sets_422 : decode cL_sets 422 = .ok (.ireturn, 1) := by decide +kernel
theorem dL_sets_423 : decode cL_sets 423 = .ok (.aload_n 0, 1) := by decide +kernel
theorem dL_sets_424 : decode cL_sets 424 = .ok (.bipush 7, 2) := by decide +kernel
theorem dL_sets_426 : decode cL_sets 426 = .ok (.invokevirtual 13, 3) := by decide +kernel
theorem dL_sets_429 : decode cL_sets 429 = .ok (.istore 5, 2) := by decide +kernel
theorem dL_sets_431 : decode cL_sets 431 = .ok (.bipush 20, 2) := by decide +kernel
theorem dL_sets_433 : decode cL_sets 433 = .ok (.iload_n 3, 1) := by decide +kernel
theorem dL_sets_434 : decode cL_sets 434 = .ok (.sipush 481, 3) := by decide +kernel
theorem dL_sets_437 : decode cL_sets 437 = .ok (.invokestatic 86, 3) := by decide +kernel
theorem dL_sets_440 : decode cL_sets 440 = .ok (.iadd, 1) := by decide +kernel
theorem dL_sets_441 : decode cL_sets 441 = .ok (.istore 6, 2) := by decide +kernel
theorem dL_sets_443 : decode cL_sets 443 = .ok (.aload_n 0, 1) := by decide +kernel
theorem dL_sets_444 : decode cL_sets 444 = .ok (.iload 6, 2) := by decide +kernel
theorem dL_sets_446 : decode cL_sets 446 = .ok (.invokevirtual 102, 3) := by decide +kernel
theorem dL_sets_449 : decode cL_sets 449 = .ok (.iload 5, 2) := by decide +kernel
theorem dL_sets_451 : decode cL_sets 451 = .ok (.iload 6, 2) := by decide +kernel
theorem dL_sets_453 : decode cL_sets 453 = .ok (.if_icmp .ne 8, 3) := by decide +kernel
theorem dL_sets_456 : decode cL_sets 456 = .ok (.ldc 57, 2) := by decide +kernel
theorem dL_sets_458 : decode cL_sets 458 = .ok (.goto 5, 3) := by decide +kernel
theorem dL_sets_461 : decode cL_sets 461 = .ok (.iload 5, 2) := by decide +kernel
theorem dL_sets_463 : decode cL_sets 463 = .ok (.if_icmp .ne 29, 3) := by decide +kernel
theorem dL_sets_466 : decode cL_sets 466 = .ok (.aload_n 0, 1) := by decide +kernel
theorem dL_sets_467 : decode cL_sets 467 = .ok (.bipush 7, 2) := by decide +kernel
theorem dL_sets_469 : decode cL_sets 469 = .ok (.invokevirtual 13, 3) := by decide +kernel
theorem dL_sets_472 : decode cL_sets 472 = .ok (.iload 6, 2) := by decide +kernel
theorem dL_sets_474 : decode cL_sets 474 = .ok (.if_icmp .ne 18, 3) := by decide +kernel
theorem dL_sets_477 : decode cL_sets 477 = .ok (.aload_n 0, 1) := by decide +kernel
theorem dL_sets_478 : decode cL_sets 478 = .ok (.bipush 19, 2) := by decide +kernel
theorem dL_sets_480 : decode cL_sets 480 = .ok (.invokevirtual 102, 3) := by decide +kernel
theorem dL_sets_483 : decode cL_sets 483 = .ok (.ldc 49, 2) := by decide +kernel
theorem dL_sets_485 : decode cL_sets 485 = .ok (.if_icmp .ne 7, 3) := by decide +kernel
theorem dL_sets_488 : decode cL_sets 488 = .ok (.iconst 1, 1) := by decide +kernel
theorem dL_sets_489 : decode cL_sets 489 = .ok (.goto 4, 3) := by decide +kernel
theorem dL_sets_492 : decode cL_sets 492 = .ok (.iconst 0, 1) := by decide +kernel
theorem dL_sets_493 : decode cL_sets 493 = .ok (.ireturn, 1) := by decide +kernel
theorem dL_asks_0 : decode cL_asks 0 = .ok (.aload_n 0, 1) := by decide +kernel
theorem dL_asks_1 : decode cL_asks 1 = .ok (.iconst 1, 1) := by decide +kernel
theorem dL_asks_2 : decode cL_asks 2 = .ok (.invokevirtual 13, 3) := by decide +kernel
theorem dL_asks_5 : decode cL_asks 5 = .ok (.istore_n 3, 1) := by decide +kernel
theorem dL_asks_6 : decode cL_asks 6 = .ok (.aload_n 0, 1) := by decide +kernel
theorem dL_asks_7 : decode cL_asks 7 = .ok (.iconst 2, 1) := by decide +kernel
theorem dL_asks_8 : decode cL_asks 8 = .ok (.invokevirtual 13, 3) := by decide +kernel
theorem dL_asks_11 : decode cL_asks 11 = .ok (.istore 4, 2) := by decide +kernel
theorem dL_asks_13 : decode cL_asks 13 = .ok (.aload_n 0, 1) := by decide +kernel
theorem dL_asks_14 : decode cL_asks 14 = .ok (.iload_n 2, 1) := by decide +kernel
theorem dL_asks_15 : decode cL_asks 15 = .ok (.iconst 3, 1) := by decide +kernel
theorem dL_asks_16 : decode cL_asks 16 = .ok (.invokestatic 86, 3) := by decide +kernel
theorem dL_asks_19 : decode cL_asks 19 = .ok (.iload_n 1, 1) := by decide +kernel
theorem dL_asks_20 : decode cL_asks 20 = .ok (.aload_n 0, 1) := by decide +kernel
theorem dL_asks_21 : decode cL_asks 21 = .ok (.iconst 0, 1) := by decide +kernel
theorem dL_asks_22 : decode cL_asks 22 = .ok (.invokevirtual 13, 3) := by decide +kernel
theorem dL_asks_25 : decode cL_asks 25 = .ok (.invokestatic 86, 3) := by decide +kernel
theorem dL_asks_28 : decode cL_asks 28 = .ok (.iload_n 2, 1) := by decide +kernel
theorem dL_asks_29 : decode cL_asks 29 = .ok (.iconst 4, 1) := by decide +kernel
theorem dL_asks_30 : decode cL_asks 30 = .ok (.ishr, 1) := by decide +kernel
theorem dL_asks_31 : decode cL_asks 31 = .ok (.bipush 10, 2) := by decide +kernel
theorem dL_asks_33 : decode cL_asks 33 = .ok (.invokestatic 86, 3) := by decide +kernel
theorem dL_asks_36 : decode cL_asks 36 = .ok (.invokevirtual 105, 3) := by decide +kernel
theorem dL_asks_39 : decode cL_asks 39 = .ok (.istore 5, 2) := by decide +kernel
theorem dL_asks_41 : decode cL_asks 41 = .ok (.iload_n 3, 1) := by decide +kernel
theorem dL_asks_42 : decode cL_asks 42 = .ok (.bipush 20, 2) := by decide +kernel
theorem dL_asks_44 : decode cL_asks 44 = .ok (.if_icmp .ne 28, 3) := by decide +kernel
theorem dL_asks_47 : decode cL_asks 47 = .ok (.iload 5, 2) := by decide +kernel
theorem dL_asks_49 : decode cL_asks 49 = .ok (.ldc 108, 2) := by decide +kernel
theorem dL_asks_51 : decode cL_asks 51 = .ok (.if_icmp .ne 17, 3) := by decide +kernel
theorem dL_asks_54 : decode cL_asks 54 = .ok (.aload_n 0, 1) := by decide +kernel
theorem dL_asks_55 : decode cL_asks 55 = .ok (.bipush 9, 2) := by decide +kernel
theorem dL_asks_57 : decode cL_asks 57 = .ok (.invokevirtual 13, 3) := by decide +kernel
theorem dL_asks_60 : decode cL_asks 60 = .ok (.iconst 1, 1) := by decide +kernel
theorem dL_asks_61 : decode cL_asks 61 = .ok (.if_icmp .ne 7, 3) := by decide +kernel
theorem dL_asks_64 : decode cL_asks 64 = .ok (.iconst 1, 1) := by decide +kernel
theorem dL_asks_65 : decode cL_asks 65 = .ok (.goto 42, 3) := by decide +kernel
theorem dL_asks_68 : decode cL_asks 68 = .ok (.iconst 0, 1) := by decide +kernel
theorem dL_asks_69 : decode cL_asks 69 = .ok (.goto 38, 3) := by decide +kernel
theorem dL_asks_72 : decode cL_asks 72 = .ok (.iload 5, 2) := by decide +kernel
theorem dL_asks_74 : decode cL_asks 74 = .ok (.iload 4, 2) := by decide +kernel
theorem dL_asks_76 : decode cL_asks 76 = .ok (.if_icmp .ne 30, 3) := by decide +kernel
theorem dL_asks_79 : decode cL_asks 79 = .ok (.aload_n 0, 1) := by decide +kernel
theorem dL_asks_80 : decode cL_asks 80 = .ok (.iconst 1, 1) := by decide +kernel
theorem dL_asks_81 : decode cL_asks 81 = .ok (.invokevirtual 13, 3) := by decide +kernel
theorem dL_asks_84 : decode cL_asks 84 = .ok (.iload_n 3, 1) := by decide +kernel
theorem dL_asks_85 : decode cL_asks 85 = .ok (.iconst 1, 1) := by decide +kernel
theorem dL_asks_86 : decode cL_asks 86 = .ok (.iadd, 1) := by decide +kernel
theorem dL_asks_87 : decode cL_asks 87 = .ok (.if_icmp .ne 19, 3) := by decide +kernel
theorem dL_asks_90 : decode cL_asks 90 = .ok (.aload_n 0, 1) := by decide +kernel
theorem dL_asks_91 : decode cL_asks 91 = .ok (.iconst 3, 1) := by decide +kernel
theorem dL_asks_92 : decode cL_asks 92 = .ok (.iconst 0, 1) := by decide +kernel
theorem dL_asks_93 : decode cL_asks 93 = .ok (.iconst 0, 1) := by decide +kernel
theorem dL_asks_94 : decode cL_asks 94 = .ok (.invokevirtual 105, 3) := by decide +kernel
theorem dL_asks_97 : decode cL_asks 97 = .ok (.ldc 49, 2) := by decide +kernel
theorem dL_asks_99 : decode cL_asks 99 = .ok (.if_icmp .ne 7, 3) := by decide +kernel
theorem dL_asks_102 : decode cL_asks 102 = .ok (.iconst 1, 1) := by decide +kernel
theorem dL_asks_103 : decode cL_asks 103 = .ok (.goto 4, 3) := by decide +kernel
theorem dL_asks_106 : decode cL_asks 106 = .ok (.iconst 0, 1) := by decide +kernel
theorem dL_asks_107 : decode cL_asks 107 = .ok (.ireturn, 1) := by decide +kernel
theorem dL_law_0 : decode cL_law 0 = .ok (.new 14, 3) := by decide +kernel
theorem dL_law_3 : decode cL_law 3 = .ok (.dup, 1) := by decide +kernel
theorem dL_law_4 : decode cL_law 4 = .ok (.invokespecial 109, 3) := by decide +kernel
theorem dL_law_7 : decode cL_law 7 = .ok (.astore_n 1, 1) := by decide +kernel
theorem dL_law_8 : decode cL_law 8 = .ok (.aload_n 1, 1) := by decide +kernel
theorem dL_law_9 : decode cL_law 9 = .ok (.invokevirtual 110, 3) := by decide +kernel
theorem dL_law_12 : decode cL_law 12 = .ok (.ldc 57, 2) := by decide +kernel
theorem dL_law_14 : decode cL_law 14 = .ok (.if_icmp .ne 62, 3) := by decide +kernel
theorem dL_law_17 : decode cL_law 17 = .ok (.aload_n 1, 1) := by decide +kernel
theorem dL_law_18 : decode cL_law 18 = .ok (.invokevirtual 113, 3) := by decide +kernel
theorem dL_law_21 : decode cL_law 21 = .ok (.ldc 57, 2) := by decide +kernel
theorem dL_law_23 : decode cL_law 23 = .ok (.if_icmp .ne 53, 3) := by decide +kernel
theorem dL_law_26 : decode cL_law 26 = .ok (.aload_n 1, 1) := by decide +kernel
theorem dL_law_27 : decode cL_law 27 = .ok (.invokevirtual 76, 3) := by decide +kernel
theorem dL_law_30 : decode cL_law 30 = .ok (.ldc 57, 2) := by decide +kernel
theorem dL_law_32 : decode cL_law 32 = .ok (.if_icmp .ne 44, 3) := by decide +kernel
theorem dL_law_35 : decode cL_law 35 = .ok (.aload_n 1, 1) := by decide +kernel
theorem dL_law_36 : decode cL_law 36 = .ok (.iconst 0, 1) := by decide +kernel
theorem dL_law_37 : decode cL_law 37 = .ok (.invokevirtual 116, 3) := by decide +kernel
theorem dL_law_40 : decode cL_law 40 = .ok (.ldc 56, 2) := by decide +kernel
theorem dL_law_42 : decode cL_law 42 = .ok (.if_icmp .ne 34, 3) := by decide +kernel
theorem dL_law_45 : decode cL_law 45 = .ok (.aload_n 1, 1) := by decide +kernel
theorem dL_law_46 : decode cL_law 46 = .ok (.invokevirtual 119, 3) := by decide +kernel
theorem dL_law_49 : decode cL_law 49 = .ok (.bipush (-100), 2) := by decide +kernel
theorem dL_law_51 : decode cL_law 51 = .ok (.if_icmp .ne 25, 3) := by decide +kernel
theorem dL_law_54 : decode cL_law 54 = .ok (.aload_n 1, 1) := by decide +kernel
theorem dL_law_55 : decode cL_law 55 = .ok (.bipush 7, 2) := by decide +kernel
theorem dL_law_57 : decode cL_law 57 = .ok (.invokevirtual 13, 3) := by decide +kernel
theorem dL_law_60 : decode cL_law 60 = .ok (.bipush 100, 2) := by decide +kernel
theorem dL_law_62 : decode cL_law 62 = .ok (.if_icmp .ne 14, 3) := by decide +kernel
theorem dL_law_65 : decode cL_law 65 = .ok (.aload_n 1, 1) := by decide +kernel
theorem dL_law_66 : decode cL_law 66 = .ok (.iconst 0, 1) := by decide +kernel
theorem dL_law_67 : decode cL_law 67 = .ok (.iconst 1, 1) := by decide +kernel
theorem dL_law_68 : decode cL_law 68 = .ok (.invokevirtual 58, 3) := by decide +kernel
theorem dL_law_71 : decode cL_law 71 = .ok (.ldc 57, 2) := by decide +kernel
theorem dL_law_73 : decode cL_law 73 = .ok (.if_icmp .eq 5, 3) := by decide +kernel
theorem dL_law_76 : decode cL_law 76 = .ok (.iconst 0, 1) := by decide +kernel
theorem dL_law_77 : decode cL_law 77 = .ok (.ireturn, 1) := by decide +kernel
theorem dL_law_78 : decode cL_law 78 = .ok (.iconst 0, 1) := by decide +kernel
theorem dL_law_79 : decode cL_law 79 = .ok (.istore_n 2, 1) := by decide +kernel
theorem dL_law_80 : decode cL_law 80 = .ok (.iconst 0, 1) := by decide +kernel
theorem dL_law_81 : decode cL_law 81 = .ok (.istore_n 3, 1) := by decide +kernel
theorem dL_law_82 : decode cL_law 82 = .ok (.iload_n 3, 1) := by decide +kernel
theorem dL_law_83 : decode cL_law 83 = .ok (.bipush 24, 2) := by decide +kernel
theorem dL_law_85 : decode cL_law 85 = .ok (.if_icmp .ge 434, 3) := by decide +kernel
theorem dL_law_88 : decode cL_law 88 = .ok (.aload_n 0, 1) := by decide +kernel
theorem dL_law_89 : decode cL_law 89 = .ok (.iconst 2, 1) := by decide +kernel
theorem dL_law_90 : decode cL_law 90 = .ok (.iload_n 3, 1) := by decide +kernel
theorem dL_law_91 : decode cL_law 91 = .ok (.imul, 1) := by decide +kernel
theorem dL_law_92 : decode cL_law 92 = .ok (.invokestatic 122, 3) := by decide +kernel
theorem dL_law_95 : decode cL_law 95 = .ok (.istore 4, 2) := by decide +kernel
theorem dL_law_97 : decode cL_law 97 = .ok (.aload_n 0, 1) := by decide +kernel
theorem dL_law_98 : decode cL_law 98 = .ok (.iconst 2, 1) := by decide +kernel
theorem dL_law_99 : decode cL_law 99 = .ok (.iload_n 3, 1) := by decide +kernel
theorem dL_law_100 : decode cL_law 100 = .ok (.imul, 1) := by decide +kernel
theorem dL_law_101 : decode cL_law 101 = .ok (.iconst 1, 1) := by decide +kernel
theorem dL_law_102 : decode cL_law 102 = .ok (.iadd, 1) := by decide +kernel
theorem dL_law_103 : decode cL_law 103 = .ok (.invokestatic 122, 3) := by decide +kernel
theorem dL_law_106 : decode cL_law 106 = .ok (.istore 5, 2) := by decide +kernel
theorem dL_law_108 : decode cL_law 108 = .ok (.iload 4, 2) := by decide +kernel
theorem dL_law_110 : decode cL_law 110 = .ok (.bipush 9, 2) := by decide +kernel
theorem dL_law_112 : decode cL_law 112 = .ok (.ishr, 1) := by decide +kernel
theorem dL_law_113 : decode cL_law 113 = .ok (.bipush 14, 2) := by decide +kernel
theorem dL_law_115 : decode cL_law 115 = .ok (.invokestatic 86, 3) := by decide +kernel
theorem dL_law_118 : decode cL_law 118 = .ok (.istore 6, 2) := by decide +kernel
theorem dL_law_120 : decode cL_law 120 = .ok (.aload_n 1, 1) := by decide +kernel
theorem dL_law_121 : decode cL_law 121 = .ok (.iconst 0, 1) := by decide +kernel
theorem dL_law_122 : decode cL_law 122 = .ok (.invokevirtual 13, 3) := by decide +kernel
theorem dL_law_125 : decode cL_law 125 = .ok (.istore 7, 2) := by decide +kernel
theorem dL_law_127 : decode cL_law 127 = .ok (.aload_n 1, 1) := by decide +kernel
theorem dL_law_128 : decode cL_law 128 = .ok (.bipush 10, 2) := by decide +kernel
theorem dL_law_130 : decode cL_law 130 = .ok (.invokevirtual 13, 3) := by decide +kernel
theorem dL_law_133 : decode cL_law 133 = .ok (.istore 8, 2) := by decide +kernel
theorem dL_law_135 : decode cL_law 135 = .ok (.iload_n 2, 1) := by decide +kernel
theorem dL_law_136 : decode cL_law 136 = .ok (.istore 9, 2) := by decide +kernel
theorem dL_law_138 : decode cL_law 138 = .ok (.aload_n 1, 1) := by decide +kernel
theorem dL_law_139 : decode cL_law 139 = .ok (.invokestatic 126, 3) := by decide +kernel
theorem dL_law_142 : decode cL_law 142 = .ok (.lstore 10, 2) := by decide +kernel
theorem dL_law_144 : decode cL_law 144 = .ok (.iconst 1, 1) := by decide +kernel
theorem dL_law_145 : decode cL_law 145 = .ok (.istore 12, 2) := by decide +kernel
theorem dL_law_147 : decode cL_law 147 = .ok (.iload 7, 2) := by decide +kernel
theorem dL_law_149 : decode cL_law 149 = .ok (.ifCond .eq 8, 3) := by decide +kernel
theorem dL_law_152 : decode cL_law 152 = .ok (.iload 6, 2) := by decide +kernel
theorem dL_law_154 : decode cL_law 154 = .ok (.ifCond .ne 131, 3) := by decide +kernel
theorem dL_law_157 : decode cL_law 157 = .ok (.aload_n 1, 1) := by decide +kernel
theorem dL_law_158 : decode cL_law 158 = .ok (.iload 5, 2) := by decide +kernel
theorem dL_law_160 : decode cL_law 160 = .ok (.sipush 1001, 3) := by decide +kernel
theorem dL_law_163 : decode cL_law 163 = .ok (.invokestatic 86, 3) := by decide +kernel
theorem dL_law_166 : decode cL_law 166 = .ok (.iload 4, 2) := by decide +kernel
theorem dL_law_168 : decode cL_law 168 = .ok (.iconst 1, 1) := by decide +kernel
theorem dL_law_169 : decode cL_law 169 = .ok (.iand, 1) := by decide +kernel
theorem dL_law_170 : decode cL_law 170 = .ok (.iconst 1, 1) := by decide +kernel
theorem dL_law_171 : decode cL_law 171 = .ok (.if_icmp .ne 7, 3) := by decide +kernel
theorem dL_law_174 : decode cL_law 174 = .ok (.iconst 1, 1) := by decide +kernel
theorem dL_law_175 : decode cL_law 175 = .ok (.goto 4, 3) := by decide +kernel
theorem dL_law_178 : decode cL_law 178 = .ok (.iconst 0, 1) := by decide +kernel
theorem dL_law_179 : decode cL_law 179 = .ok (.iload 4, 2) := by decide +kernel
theorem dL_law_181 : decode cL_law 181 = .ok (.iconst 2, 1) := by decide +kernel
theorem dL_law_182 : decode cL_law 182 = .ok (.iand, 1) := by decide +kernel
theorem dL_law_183 : decode cL_law 183 = .ok (.ifCond .ne 8, 3) := by decide +kernel
theorem dL_law_186 : decode cL_law 186 = .ok (.bipush 120, 2) := by decide +kernel
theorem dL_law_188 : decode cL_law 188 = .ok (.goto 6, 3) := by decide +kernel
theorem dL_law_191 : decode cL_law 191 = .ok (.sipush 350, 3) := by decide +kernel
theorem dL_law_194 : decode cL_law 194 = .ok (.sipush 180, 3) := by decide +kernel
theorem dL_law_197 : decode cL_law 197 = .ok (.iload 5, 2) := by decide +kernel
theorem dL_law_199 : decode cL_law 199 = .ok (.iconst 5, 1) := by decide +kernel
theorem dL_law_200 : decode cL_law 200 = .ok (.ishr, 1) := by decide +kernel
theorem dL_law_201 : decode cL_law 201 = .ok (.bipush 61, 2) := by decide +kernel
theorem dL_law_203 : decode cL_law 203 = .ok (.invokestatic 86, 3) := by decide +kernel
theorem dL_law_206 : decode cL_law 206 = .ok (.iadd, 1) := by decide +kernel
theorem dL_law_207 : decode cL_law 207 = .ok (.invokevirtual 130, 3) := by decide +kernel
theorem dL_law_210 : decode cL_law 210 = .ok (.istore 13, 2) := by decide +kernel
theorem dL_law_212 : decode cL_law 212 = .ok (.iload 13, 2) := by decide +kernel
theorem dL_law_214 : decode cL_law 214 = .ok (.ldc 108, 2) := by decide +kernel
theorem dL_law_216 : decode cL_law 216 = .ok (.if_icmp .ne 38, 3) := by decide +kernel
theorem dL_law_219 : decode cL_law 219 = .ok (.aload_n 1, 1) := by decide +kernel
theorem dL_law_220 : decode cL_law 220 = .ok (.bipush 9, 2) := by decide +kernel
theorem dL_law_222 : decode cL_law 222 = .ok (.invokevirtual 13, 3) := by decide +kernel
theorem dL_law_225 : decode cL_law 225 = .ok (.iload 7, 2) := by decide +kernel
theorem dL_law_227 : decode cL_law 227 = .ok (.bipush 8, 2) := by decide +kernel
theorem dL_law_229 : decode cL_law 229 = .ok (.if_icmp .ne 7, 3) := by decide +kernel
theorem dL_law_232 : decode cL_law 232 = .ok (.iconst 1, 1) := by decide +kernel
theorem dL_law_233 : decode cL_law 233 = .ok (.goto 5, 3) := by decide +kernel
theorem dL_law_236 : decode cL_law 236 = .ok (.bipush 6, 2) := by decide +kernel
theorem dL_law_238 : decode cL_law 238 = .ok (.if_icmp .ne 12, 3) := by decide +kernel
theorem dL_law_241 : decode cL_law 241 = .ok (.iload 7, 2) := by decide +kernel
theorem dL_law_243 : decode cL_law 243 = .ok (.ifCond .le 7, 3) := by decide +kernel
theorem dL_law_246 : decode cL_law 246 = .ok (.iconst 1, 1) := by decide +kernel
theorem dL_law_247 : decode cL_law 247 = .ok (.goto 33, 3) := by decide +kernel
theorem dL_law_250 : decode cL_law 250 = .ok (.iconst 0, 1) := by decide +kernel
theorem dL_law_251 : decode cL_law 251 = .ok (.goto 29, 3) := by decide +kernel
theorem dL_law_254 : decode cL_law 254 = .ok (.iload 13, 2) := by decide +kernel
theorem dL_law_256 : decode cL_law 256 = .ok (.iload 7, 2) := by decide +kernel
theorem dL_law_258 : decode cL_law 258 = .ok (.if_icmp .ne 21, 3) := by decide +kernel
theorem dL_law_261 : decode cL_law 261 = .ok (.aload_n 1, 1) := by decide +kernel
theorem dL_law_262 : decode cL_law 262 = .ok (.iload 7, 2) := by decide +kernel
theorem dL_law_264 : decode cL_law 264 = .ok (.iconst 0, 1) := by decide +kernel
theorem dL_law_265 : decode cL_law 265 = .ok (.iconst 5, 1) := by decide +kernel
theorem dL_law_266 : decode cL_law 266 = .ok (.invokevirtual 23, 3) := by decide +kernel
theorem dL_law_269 : decode cL_law 269 = .ok (.sipush 1000, 3) := by decide +kernel
theorem dL_law_272 : decode cL_law 272 = .ok (.if_icmp .ne 7, 3) := by decide +kernel
theorem dL_law_275 : decode cL_law 275 = .ok (.iconst 1, 1) := by decide +kernel
theorem dL_law_276 : decode cL_law 276 = .ok (.goto 4, 3) := by decide +kernel
theorem dL_law_279 : decode cL_law 279 = .ok (.iconst 0, 1) := by decide +kernel
theorem dL_law_280 : decode cL_law 280 = .ok (.istore 12, 2) := by decide +kernel
theorem dL_law_282 : decode cL_law 282 = .ok (.goto 126, 3) := by decide +kernel
theorem dL_law_285 : decode cL_law 285 = .ok (.iload 6, 2) := by decide +kernel
theorem dL_law_287 : decode cL_law 287 = .ok (.bipush 6, 2) := by decide +kernel
theorem dL_law_289 : decode cL_law 289 = .ok (.if_icmp .ge 18, 3) := by decide +kernel
theorem dL_law_292 : decode cL_law 292 = .ok (.aload_n 1, 1) := by decide +kernel
theorem dL_law_293 : decode cL_law 293 = .ok (.iload 6, 2) := by decide +kernel
theorem dL_law_295 : decode cL_law 295 = .ok (.iload 4, 2) := by decide +kernel
theorem dL_law_297 : decode cL_law 297 = .ok (.iload 5, 2) := by decide +kernel
theorem dL_law_299 : decode cL_law 299 = .ok (.invokestatic 134, 3) := by decide +kernel
theorem dL_law_302 : decode cL_law 302 = .ok (.istore 12, 2) := by decide +kernel
theorem dL_law_304 : decode cL_law 304 = .ok (.goto 104, 3) := by decide +kernel
theorem dL_law_307 : decode cL_law 307 = .ok (.iload 6, 2) := by decide +kernel
theorem dL_law_309 : decode cL_law 309 = .ok (.bipush 11, 2) := by decide +kernel
theorem dL_law_311 : decode cL_law 311 = .ok (.if_icmp .ge 16, 3) := by decide +kernel
theorem dL_law_314 : decode cL_law 314 = .ok (.aload_n 1, 1) := by decide +kernel
theorem dL_law_315 : decode cL_law 315 = .ok (.iload 4, 2) := by decide +kernel
theorem dL_law_317 : decode cL_law 317 = .ok (.iload 5, 2) := by decide +kernel
theorem dL_law_319 : decode cL_law 319 = .ok (.invokestatic 138, 3) := by decide +kernel
theorem dL_law_322 : decode cL_law 322 = .ok (.istore 12, 2) := by decide +kernel
theorem dL_law_324 : decode cL_law 324 = .ok (.goto 84, 3) := by decide +kernel
theorem dL_law_327 : decode cL_law 327 = .ok (.iload 6, 2) := by decide +kernel
theorem dL_law_329 : decode cL_law 329 = .ok (.bipush 11, 2) := by decide +kernel
theorem dL_law_331 : decode cL_law 331 = .ok (.if_icmp .ne 69, 3) := by decide +kernel
theorem dL_law_334 : decode cL_law 334 = .ok (.iload 5, 2) := by decide +kernel
theorem dL_law_336 : decode cL_law 336 = .ok (.iload 7, 2) := by decide +kernel
theorem dL_law_338 : decode cL_law 338 = .ok (.invokestatic 86, 3) := by decide +kernel
theorem dL_law_341 : decode cL_law 341 = .ok (.istore 13, 2) := by decide +kernel
theorem dL_law_343 : decode cL_law 343 = .ok (.aload_n 1, 1) := by decide +kernel
theorem dL_law_344 : decode cL_law 344 = .ok (.iload 13, 2) := by decide +kernel
theorem dL_law_346 : decode cL_law 346 = .ok (.bipush 11, 2) := by decide +kernel
theorem dL_law_348 : decode cL_law 348 = .ok (.invokevirtual 19, 3) := by decide +kernel
theorem dL_law_351 : decode cL_law 351 = .ok (.istore 14, 2) := by decide +kernel
theorem dL_law_353 : decode cL_law 353 = .ok (.aload_n 1, 1) := by decide +kernel
theorem dL_law_354 : decode cL_law 354 = .ok (.iload 13, 2) := by decide +kernel
theorem dL_law_356 : decode cL_law 356 = .ok (.invokevirtual 116, 3) := by decide +kernel
theorem dL_law_359 : decode cL_law 359 = .ok (.iload 14, 2) := by decide +kernel
theorem dL_law_361 : decode cL_law 361 = .ok (.ifCond .ne 8, 3) := by decide +kernel
theorem dL_law_364 : decode cL_law 364 = .ok (.ldc 57, 2) := by decide +kernel
theorem dL_law_366 : decode cL_law 366 = .ok (.goto 5, 3) := by decide +kernel
theorem dL_law_369 : decode cL_law 369 = .ok (.iload 14, 2) := by decide +kernel
theorem dL_law_371 : decode cL_law 371 = .ok (.if_icmp .ne 18, 3) := by decide +kernel
theorem dL_law_374 : decode cL_law 374 = .ok (.aload_n 1, 1) := by decide +kernel
theorem dL_law_375 : decode cL_law 375 = .ok (.iload 13, 2) := by decide +kernel
theorem dL_law_377 : decode cL_law 377 = .ok (.bipush 11, 2) := by decide +kernel
theorem dL_law_379 : decode cL_law 379 = .ok (.invokevirtual 19, 3) := by decide +kernel
theorem dL_law_382 : decode cL_law 382 = .ok (.ifCond .ne 7, 3) := by decide +kernel
theorem dL_law_385 : decode cL_law 385 = .ok (.iconst 1, 1) := by decide +kernel
theorem dL_law_386 : decode cL_law 386 = .ok (.goto 4, 3) := by decide +kernel
theorem dL_law_389 : decode cL_law 389 = .ok (.iconst 0, 1) := by decide +kernel
theorem dL_law_390 : decode cL_law 390 = .ok (.istore 12, 2) := by decide +kernel
theorem dL_law_392 : decode cL_law 392 = .ok (.iload_n 2, 1) := by decide +kernel
theorem dL_law_393 : decode cL_law 393 = .ok (.iload 14, 2) := by decide +kernel
theorem dL_law_395 : decode cL_law 395 = .ok (.iadd, 1) := by decide +kernel
theorem dL_law_396 : decode cL_law 396 = .ok (.istore_n 2, 1) := by decide +kernel
theorem dL_law_397 : decode cL_law 397 = .ok (.goto 11, 3) := by decide +kernel
theorem dL_law_400 : decode cL_law 400 = .ok (.aload_n 1, 1) := by decide +kernel
theorem dL_law_401 : decode cL_law 401 = .ok (.iload 5, 2) := by decide +kernel
theorem dL_law_403 : decode cL_law 403 = .ok (.invokestatic 142, 3) := by decide +kernel
theorem dL_law_406 : decode cL_law 406 = .ok (.istore 12, 2) := by decide +kernel
theorem dL_law_408 : decode cL_law 408 = .ok (.iload 12, 2) := by decide +kernel
theorem dL_law_410 : decode cL_law 410 = .ok (.ifCond .eq 78, 3) := by decide +kernel
theorem dL_law_413 : decode cL_law 413 = .ok (.iload 5, 2) := by decide +kernel
theorem dL_law_415 : decode cL_law 415 = .ok (.sipush 1536, 3) := by decide +kernel
theorem dL_law_418 : decode cL_law 418 = .ok (.iand, 1) := by decide +kernel
theorem dL_law_419 : decode cL_law 419 = .ok (.ifCond .ne 69, 3) := by decide +kernel
theorem dL_law_422 : decode cL_law 422 = .ok (.aload_n 1, 1) := by decide +kernel
theorem dL_law_423 : decode cL_law 423 = .ok (.bipush 10, 2) := by decide +kernel
theorem dL_law_425 : decode cL_law 425 = .ok (.invokevirtual 13, 3) := by decide +kernel
theorem dL_law_428 : decode cL_law 428 = .ok (.iload 8, 2) := by decide +kernel
theorem dL_law_430 : decode cL_law 430 = .ok (.if_icmp .ne 19, 3) := by decide +kernel
theorem dL_law_433 : decode cL_law 433 = .ok (.iload 8, 2) := by decide +kernel
theorem dL_law_435 : decode cL_law 435 = .ok (.iconst 5, 1) := by decide +kernel
theorem dL_law_436 : decode cL_law 436 = .ok (.if_icmp .ne 52, 3) := by decide +kernel
theorem dL_law_439 : decode cL_law 439 = .ok (.aload_n 1, 1) := by decide +kernel
theorem dL_law_440 : decode cL_law 440 = .ok (.invokestatic 126, 3) := by decide +kernel
theorem dL_law_443 : decode cL_law 443 = .ok (.lload 10, 2) := by decide +kernel
theorem dL_law_445 : decode cL_law 445 = .ok (.lcmp, 1) := by decide +kernel
theorem dL_law_446 : decode cL_law 446 = .ok (.ifCond .eq 42, 3) := by decide +kernel
theorem dL_law_449 : decode cL_law 449 = .ok (.aload_n 1, 1) := by decide +kernel
theorem dL_law_450 : decode cL_law 450 = .ok (.invokevirtual 110, 3) := by decide +kernel
theorem dL_law_453 : decode cL_law 453 = .ok (.iload 8, 2) := by decide +kernel
theorem dL_law_455 : decode cL_law 455 = .ok (.iconst 5, 1) := by decide +kernel
theorem dL_law_456 : decode cL_law 456 = .ok (.if_icmp .ne 7, 3) := by decide +kernel
theorem dL_law_459 : decode cL_law 459 = .ok (.iconst 4, 1) := by decide +kernel
theorem dL_law_460 : decode cL_law 460 = .ok (.goto 5, 3) := by decide +kernel
theorem dL_law_463 : decode cL_law 463 = .ok (.iload 8, 2) := by decide +kernel
theorem dL_law_465 : decode cL_law 465 = .ok (.if_icmp .ne 17, 3) := by decide +kernel
theorem dL_law_468 : decode cL_law 468 = .ok (.aload_n 1, 1) := by decide +kernel
theorem dL_law_469 : decode cL_law 469 = .ok (.invokestatic 126, 3) := by decide +kernel
theorem dL_law_472 : decode cL_law 472 = .ok (.lload 10, 2) := by decide +kernel
theorem dL_law_474 : decode cL_law 474 = .ok (.lcmp, 1) := by decide +kernel
theorem dL_law_475 : decode cL_law 475 = .ok (.ifCond .ne 7, 3) := by decide +kernel
theorem dL_law_478 : decode cL_law 478 = .ok (.iconst 1, 1) := by decide +kernel
theorem dL_law_479 : decode cL_law 479 = .ok (.goto 4, 3) := by decide +kernel
theorem dL_law_482 : decode cL_law 482 = .ok (.iconst 0, 1) := by decide +kernel
theorem dL_law_483 : decode cL_law 483 = .ok (.istore 12, 2) := by decide +kernel
theorem dL_law_485 : decode cL_law 485 = .ok (.iload 9, 2) := by decide +kernel
theorem dL_law_487 : decode cL_law 487 = .ok (.istore_n 2, 1) := by decide +kernel
theorem dL_law_488 : decode cL_law 488 = .ok (.iload 12, 2) := by decide +kernel
theorem dL_law_490 : decode cL_law 490 = .ok (.ifCond .eq 21, 3) := by decide +kernel
theorem dL_law_493 : decode cL_law 493 = .ok (.aload_n 1, 1) := by decide +kernel
theorem dL_law_494 : decode cL_law 494 = .ok (.iload_n 2, 1) := by decide +kernel
theorem dL_law_495 : decode cL_law 495 = .ok (.iload 4, 2) := by decide +kernel
theorem dL_law_497 : decode cL_law 497 = .ok (.iconst 3, 1) := by decide +kernel
theorem dL_law_498 : decode cL_law 498 = .ok (.ishr, 1) := by decide +kernel
theorem dL_law_499 : decode cL_law 499 = .ok (.sipush 1001, 3) := by decide +kernel
theorem dL_law_502 : decode cL_law 502 = .ok (.invokestatic 86, 3) := by decide +kernel
theorem dL_law_505 : decode cL_law 505 = .ok (.invokestatic 145, 3) := by decide +kernel
theorem dL_law_508 : decode cL_law 508 = .ok (.ifCond .ne 5, 3) := by decide +kernel
theorem dL_law_511 : decode cL_law 511 = .ok (.iconst 0, 1) := by decide +kernel
theorem dL_law_512 : decode cL_law 512 = .ok (.ireturn, 1) := by decide +kernel
theorem dL_law_513 : decode cL_law 513 = .ok (.iinc 3 1, 3) := by decide +kernel
theorem dL_law_516 : decode cL_law 516 = .ok (.goto (-434), 3) := by decide +kernel
theorem dL_law_519 : decode cL_law 519 = .ok (.iconst 1, 1) := by decide +kernel
theorem dL_law_520 : decode cL_law 520 = .ok (.ireturn, 1) := by decide +kernel
