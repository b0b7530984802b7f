theorem dX8_ofGauge_6 : decode cX8_ofGauge 6 = .ok (.imul, 1) := by decide +kernel
theorem dX8_ofGauge_7 : decode cX8_ofGauge 7 = .ok (.iadd, 1) := by decide +kernel
theorem dX8_ofGauge_8 : decode cX8_ofGauge 8 = .ok (.iload_n 3, 1) := by decide +kernel
theorem dX8_ofGauge_9 : decode cX8_ofGauge 9 = .ok (.iadd, 1) := by decide +kernel
theorem dX8_ofGauge_10 : decode cX8_ofGauge 10 = .ok (.invokevirtual 41, 3) := by decide +kernel
theorem dX8_ofGauge_13 : decode cX8_ofGauge 13 = .ok (.ireturn, 1) := by decide +kernel
theorem dX8_putGauge_0 : decode cX8_putGauge 0 = .ok (.aload_n 0, 1) := by decide +kernel
theorem dX8_putGauge_1 : decode cX8_putGauge 1 = .ok (.iload_n 1, 1) := by decide +kernel
theorem dX8_putGauge_2 : decode cX8_putGauge 2 = .ok (.bipush 9, 2) := by decide +kernel
theorem dX8_putGauge_4 : decode cX8_putGauge 4 = .ok (.iconst 3, 1) := by decide +kernel
theorem dX8_putGauge_5 : decode cX8_putGauge 5 = .ok (.iload_n 2, 1) := by decide +kernel
theorem dX8_putGauge_6 : decode cX8_putGauge 6 = .ok (.imul, 1) := by decide +kernel
theorem dX8_putGauge_7 : decode cX8_putGauge 7 = .ok (.iadd, 1) := by decide +kernel
theorem dX8_putGauge_8 : decode cX8_putGauge 8 = .ok (.iload_n 3, 1) := by decide +kernel
theorem dX8_putGauge_9 : decode cX8_putGauge 9 = .ok (.iadd, 1) := by decide +kernel
theorem dX8_putGauge_10 : decode cX8_putGauge 10 = .ok (.iload 4, 2) := by decide +kernel
theorem dX8_putGauge_12 : decode cX8_putGauge 12 = .ok (.invokevirtual 45, 3) := by decide +kernel
theorem dX8_putGauge_15 : decode cX8_putGauge 15 = .ok (.return_, 1) := by decide +kernel
theorem dX8_isAt_0 : decode cX8_isAt 0 = .ok (.iconst 0, 1) := by decide +kernel
theorem dX8_isAt_1 : decode cX8_isAt 1 = .ok (.istore_n 2, 1) := by decide +kernel
theorem dX8_isAt_2 : decode cX8_isAt 2 = .ok (.iload_n 2, 1) := by decide +kernel
theorem dX8_isAt_3 : decode cX8_isAt 3 = .ok (.aload_n 0, 1) := by decide +kernel
theorem dX8_isAt_4 : decode cX8_isAt 4 = .ok (.getfield 7, 3) := by decide +kernel
theorem dX8_isAt_7 : decode cX8_isAt 7 = .ok (.iconst 0, 1) := by decide +kernel
theorem dX8_isAt_8 : decode cX8_isAt 8 = .ok (.iaload, 1) := by decide +kernel
theorem dX8_isAt_9 : decode cX8_isAt 9 = .ok (.if_icmp .ge 21, 3) := by decide +kernel
theorem dX8_isAt_12 : decode cX8_isAt 12 = .ok (.aload_n 0, 1) := by decide +kernel
theorem dX8_isAt_13 : decode cX8_isAt 13 = .ok (.iload_n 2, 1) := by decide +kernel
theorem dX8_isAt_14 : decode cX8_isAt 14 = .ok (.iconst 0, 1) := by decide +kernel
theorem dX8_isAt_15 : decode cX8_isAt 15 = .ok (.invokevirtual 41, 3) := by decide +kernel
theorem dX8_isAt_18 : decode cX8_isAt 18 = .ok (.iload_n 1, 1) := by decide +kernel
theorem dX8_isAt_19 : decode cX8_isAt 19 = .ok (.if_icmp .ne 5, 3) := by decide +kernel
theorem dX8_isAt_22 : decode cX8_isAt 22 = .ok (.iload_n 2, 1) := by decide +kernel
theorem dX8_isAt_23 : decode cX8_isAt 23 = .ok (.ireturn, 1) := by decide +kernel
theorem dX8_isAt_24 : decode cX8_isAt 24 = .ok (.iinc 2 1, 3) := by decide +kernel
theorem dX8_isAt_27 : decode cX8_isAt 27 = .ok (.goto (-25), 3) := by decide +kernel
theorem dX8_isAt_30 : decode cX8_isAt 30 = .ok (.ldc 49, 2) := by decide +kernel
theorem dX8_isAt_32 : decode cX8_isAt 32 = .ok (.ireturn, 1) := by decide +kernel
theorem dX8_addRosette_0 : decode cX8_addRosette 0 = .ok (.iload_n 1, 1) := by decide +kernel
theorem dX8_addRosette_1 : decode cX8_addRosette 1 = .ok (.iconst 0, 1) := by decide +kernel
theorem dX8_addRosette_2 : decode cX8_addRosette 2 = .ok (.sipush 1000, 3) := by decide +kernel
theorem dX8_addRosette_5 : decode cX8_addRosette 5 = .ok (.invokestatic 37, 3) := by decide +kernel
theorem dX8_addRosette_8 : decode cX8_addRosette 8 = .ok (.ifCond .eq 30, 3) := by decide +kernel
theorem dX8_addRosette_11 : decode cX8_addRosette 11 = .ok (.iload_n 3, 1) := by decide +kernel
theorem dX8_addRosette_12 : decode cX8_addRosette 12 = .ok (.bipush 120, 2) := by decide +kernel
theorem dX8_addRosette_14 : decode cX8_addRosette 14 = .ok (.if_icmp .eq 10, 3) := by decide +kernel
theorem dX8_addRosette_17 : decode cX8_addRosette 17 = .ok (.iload_n 3, 1) := by decide +kernel
theorem dX8_addRosette_18 : decode cX8_addRosette 18 = .ok (.sipush 350, 3) := by decide +kernel
theorem dX8_addRosette_21 : decode cX8_addRosette 21 = .ok (.if_icmp .ne 17, 3) := by decide +kernel
theorem dX8_addRosette_24 : decode cX8_addRosette 24 = .ok (.iload 4, 2) := by decide +kernel
theorem dX8_addRosette_26 : decode cX8_addRosette 26 = .ok (.sipush 180, 3) := by decide +kernel
theorem dX8_addRosette_29 : decode cX8_addRosette 29 = .ok (.sipush 240, 3) := by decide +kernel
theorem dX8_addRosette_32 : decode cX8_addRosette 32 = .ok (.invokestatic 37, 3) := by decide +kernel
theorem dX8_addRosette_35 : decode cX8_addRosette 35 = .ok (.ifCond .ne 6, 3) := by decide +kernel
theorem dX8_addRosette_38 : decode cX8_addRosette 38 = .ok (.ldc 50, 2) := by decide +kernel
theorem dX8_addRosette_40 : decode cX8_addRosette 40 = .ok (.ireturn, 1) := by decide +kernel
theorem dX8_addRosette_41 : decode cX8_addRosette 41 = .ok (.aload_n 0, 1) := by decide +kernel
theorem dX8_addRosette_42 : decode cX8_addRosette 42 = .ok (.getfield 7, 3) := by decide +kernel
theorem dX8_addRosette_45 : decode cX8_addRosette 45 = .ok (.iconst 0, 1) := by decide +kernel
theorem dX8_addRosette_46 : decode cX8_addRosette 46 = .ok (.iaload, 1) := by decide +kernel
theorem dX8_addRosette_47 : decode cX8_addRosette 47 = .ok (.bipush 8, 2) := by decide +kernel
theorem dX8_addRosette_49 : decode cX8_addRosette 49 = .ok (.if_icmp .ne 9, 3) := by decide +kernel
theorem dX8_addRosette_52 : decode cX8_addRosette 52 = .ok (.aload_n 0, 1) := by decide +kernel
theorem dX8_addRosette_53 : decode cX8_addRosette 53 = .ok (.iconst 1, 1) := by decide +kernel
theorem dX8_addRosette_54 : decode cX8_addRosette 54 = .ok (.invokevirtual 51, 3) := by decide +kernel
theorem dX8_addRosette_57 : decode cX8_addRosette 57 = .ok (.ireturn, 1) := by decide +kernel
theorem dX8_addRosette_58 : decode cX8_addRosette 58 = .ok (.aload_n 0, 1) := by decide +kernel
theorem dX8_addRosette_59 : decode cX8_addRosette 59 = .ok (.iload_n 1, 1) := by decide +kernel
theorem dX8_addRosette_60 : decode cX8_addRosette 60 = .ok (.invokevirtual 55, 3) := by decide +kernel
theorem dX8_addRosette_63 : decode cX8_addRosette 63 = .ok (.ldc 49, 2) := by decide +kernel
theorem dX8_addRosette_65 : decode cX8_addRosette 65 = .ok (.if_icmp .eq 10, 3) := by decide +kernel
theorem dX8_addRosette_68 : decode cX8_addRosette 68 = .ok (.aload_n 0, 1) := by decide +kernel
theorem dX8_addRosette_69 : decode cX8_addRosette 69 = .ok (.bipush 6, 2) := by decide +kernel
theorem dX8_addRosette_71 : decode cX8_addRosette 71 = .ok (.invokevirtual 51, 3) := by decide +kernel
theorem dX8_addRosette_74 : decode cX8_addRosette 74 = .ok (.ireturn, 1) := by decide +kernel
theorem dX8_addRosette_75 : decode cX8_addRosette 75 = .ok (.aload_n 0, 1) := by decide +kernel
theorem dX8_addRosette_76 : decode cX8_addRosette 76 = .ok (.invokevirtual 58, 3) := by decide +kernel
theorem dX8_addRosette_79 : decode cX8_addRosette 79 = .ok (.aload_n 0, 1) := by decide +kernel
theorem dX8_addRosette_80 : decode cX8_addRosette 80 = .ok (.getfield 7, 3) := by decide +kernel
theorem dX8_addRosette_83 : decode cX8_addRosette 83 = .ok (.iconst 0, 1) := by decide +kernel
theorem dX8_addRosette_84 : decode cX8_addRosette 84 = .ok (.iaload, 1) := by decide +kernel
theorem dX8_addRosette_85 : decode cX8_addRosette 85 = .ok (.istore 5, 2) := by decide +kernel
theorem dX8_addRosette_87 : decode cX8_addRosette 87 = .ok (.aload_n 0, 1) := by decide +kernel
theorem dX8_addRosette_88 : decode cX8_addRosette 88 = .ok (.getfield 7, 3) := by decide +kernel
theorem dX8_addRosette_91 : decode cX8_addRosette 91 = .ok (.iconst 0, 1) := by decide +kernel
theorem dX8_addRosette_92 : decode cX8_addRosette 92 = .ok (.dup2, 1) := by decide +kernel
theorem dX8_addRosette_93 : decode cX8_addRosette 93 = .ok (.iaload, 1) := by decide +kernel
theorem dX8_addRosette_94 : decode cX8_addRosette 94 = .ok (.iconst 1, 1) := by decide +kernel
theorem dX8_addRosette_95 : decode cX8_addRosette 95 = .ok (.iadd, 1) := by decide +kernel
theorem dX8_addRosette_96 : decode cX8_addRosette 96 = .ok (.iastore, 1) := by decide +kernel
theorem dX8_addRosette_97 : decode cX8_addRosette 97 = .ok (.iconst 0, 1) := by decide +kernel
theorem dX8_addRosette_98 : decode cX8_addRosette 98 = .ok (.istore 6, 2) := by decide +kernel
theorem dX8_addRosette_100 : decode cX8_addRosette 100 = .ok (.iload 6, 2) := by decide +kernel
theorem dX8_addRosette_102 : decode cX8_addRosette 102 = .ok (.bipush 20, 2) := by decide +kernel
theorem dX8_addRosette_104 : decode cX8_addRosette 104 = .ok (.if_icmp .ge 18, 3) := by decide +kernel
theorem dX8_addRosette_107 : decode cX8_addRosette 107 = .ok (.aload_n 0, 1) := by decide +kernel
theorem dX8_addRosette_108 : decode cX8_addRosette 108 = .ok (.iload 5, 2) := by decide +kernel
theorem dX8_addRosette_110 : decode cX8_addRosette 110 = .ok (.iload 6, 2) := by decide +kernel
theorem dX8_addRosette_112 : decode cX8_addRosette 112 = .ok (.iconst 0, 1) := by decide +kernel
theorem dX8_addRosette_113 : decode cX8_addRosette 113 = .ok (.invokevirtual 45, 3) := by decide +kernel
theorem dX8_addRosette_116 : decode cX8_addRosette 116 = .ok (.iinc 6 1, 3) := by decide +kernel
theorem dX8_addRosette_119 : decode cX8_addRosette 119 = .ok (.goto (-19), 3) := by decide +kernel
theorem dX8_addRosette_122 : decode cX8_addRosette 122 = .ok (.aload_n 0, 1) := by decide +kernel
theorem dX8_addRosette_123 : decode cX8_addRosette 123 = .ok (.iload 5, 2) := by decide +kernel
theorem dX8_addRosette_125 : decode cX8_addRosette 125 = .ok (.iconst 0, 1) := by decide +kernel
theorem dX8_addRosette_126 : decode cX8_addRosette 126 = .ok (.iload_n 1, 1) := by decide +kernel
theorem dX8_addRosette_127 : decode cX8_addRosette 127 = .ok (.invokevirtual 45, 3) := by decide +kernel
theorem dX8_addRosette_130 : decode cX8_addRosette 130 = .ok (.aload_n 0, 1) := by decide +kernel
theorem dX8_addRosette_131 : decode cX8_addRosette 131 = .ok (.iload 5, 2) := by decide +kernel
theorem dX8_addRosette_133 : decode cX8_addRosette 133 = .ok (.iconst 1, 1) := by decide +kernel
theorem dX8_addRosette_134 : decode cX8_addRosette 134 = .ok (.iload_n 2, 1) := by decide +kernel
theorem dX8_addRosette_135 : decode cX8_addRosette 135 = .ok (.ifCond .eq 7, 3) := by decide +kernel
theorem dX8_addRosette_138 : decode cX8_addRosette 138 = .ok (.iconst 1, 1) := by decide +kernel
theorem dX8_addRosette_139 : decode cX8_addRosette 139 = .ok (.goto 4, 3) := by decide +kernel
theorem dX8_addRosette_142 : decode cX8_addRosette 142 = .ok (.iconst 0, 1) := by decide +kernel
theorem dX8_addRosette_143 : decode cX8_addRosette 143 = .ok (.invokevirtual 45, 3) := by decide +kernel
theorem dX8_addRosette_146 : decode cX8_addRosette 146 = .ok (.aload_n 0, 1) := by decide +kernel
theorem dX8_addRosette_147 : decode cX8_addRosette 147 = .ok (.iload 5, 2) := by decide +kernel
theorem dX8_addRosette_149 : decode cX8_addRosette 149 = .ok (.iconst 2, 1) := by decide +kernel
theorem dX8_addRosette_150 : decode cX8_addRosette 150 = .ok (.iload_n 3, 1) := by decide +kernel
theorem dX8_addRosette_151 : decode cX8_addRosette 151 = .ok (.invokevirtual 45, 3) := by decide +kernel
theorem dX8_addRosette_154 : decode cX8_addRosette 154 = .ok (.aload_n 0, 1) := by decide +kernel
theorem dX8_addRosette_155 : decode cX8_addRosette 155 = .ok (.iload 5, 2) := by decide +kernel
theorem dX8_addRosette_157 : decode cX8_addRosette 157 = .ok (.iconst 3, 1) := by decide +kernel
theorem dX8_addRosette_158 : decode cX8_addRosette 158 = .ok (.iload 4, 2) := by decide +kernel
theorem dX8_addRosette_160 : decode cX8_addRosette 160 = .ok (.invokevirtual 45, 3) := by decide +kernel
theorem dX8_addRosette_163 : decode cX8_addRosette 163 = .ok (.iconst 0, 1) := by decide +kernel
theorem dX8_addRosette_164 : decode cX8_addRosette 164 = .ok (.istore 6, 2) := by decide +kernel
theorem dX8_addRosette_166 : decode cX8_addRosette 166 = .ok (.iload 6, 2) := by decide +kernel
theorem dX8_addRosette_168 : decode cX8_addRosette 168 = .ok (.iconst 3, 1) := by decide +kernel
theorem dX8_addRosette_169 : decode cX8_addRosette 169 = .ok (.if_icmp .ge 21, 3) := by decide +kernel
theorem dX8_addRosette_172 : decode cX8_addRosette 172 = .ok (.aload_n 0, 1) := by decide +kernel
theorem dX8_addRosette_173 : decode cX8_addRosette 173 = .ok (.iload 5, 2) := by decide +kernel
theorem dX8_addRosette_175 : decode cX8_addRosette 175 = .ok (.iload 6, 2) := by decide +kernel
theorem dX8_addRosette_177 : decode cX8_addRosette 177 = .ok (.iconst 2, 1) := by decide +kernel
theorem dX8_addRosette_178 : decode cX8_addRosette 178 = .ok (.sipush 1000, 3) := by decide +kernel
theorem dX8_addRosette_181 : decode cX8_addRosette 181 = .ok (.invokevirtual 61, 3) := by decide +kernel
theorem dX8_addRosette_184 : decode cX8_addRosette 184 = .ok (.iinc 6 1, 3) := by decide +kernel
theorem dX8_addRosette_187 : decode cX8_addRosette 187 = .ok (.goto (-21), 3) := by decide +kernel
theorem dX8_addRosette_190 : decode cX8_addRosette 190 = .ok (.iload 5, 2) := by decide +kernel
theorem dX8_addRosette_192 : decode cX8_addRosette 192 = .ok (.ireturn, 1) := by decide +kernel
theorem dX8_strainOf_0 : decode cX8_strainOf 0 = .ok (.aload_n 0, 1) := by decide +kernel
theorem dX8_strainOf_1 : decode cX8_strainOf 1 = .ok (.iload_n 1, 1) := by decide +kernel
theorem dX8_strainOf_2 : decode cX8_strainOf 2 = .ok (.iconst 5, 1) := by decide +kernel
theorem dX8_strainOf_3 : decode cX8_strainOf 3 = .ok (.invokevirtual 41, 3) := by decide +kernel
theorem dX8_strainOf_6 : decode cX8_strainOf 6 = .ok (.istore_n 3, 1) := by decide +kernel
theorem dX8_strainOf_7 : decode cX8_strainOf 7 = .ok (.aload_n 0, 1) := by decide +kernel
theorem dX8_strainOf_8 : decode cX8_strainOf 8 = .ok (.iload_n 1, 1) := by decide +kernel
theorem dX8_strainOf_9 : decode cX8_strainOf 9 = .ok (.bipush 6, 2) := by decide +kernel
theorem dX8_strainOf_11 : decode cX8_strainOf 11 = .ok (.invokevirtual 41, 3) := by decide +kernel
theorem dX8_strainOf_14 : decode cX8_strainOf 14 = .ok (.istore 4, 2) := by decide +kernel
theorem dX8_strainOf_16 : decode cX8_strainOf 16 = .ok (.aload_n 0, 1) := by decide +kernel
theorem dX8_strainOf_17 : decode cX8_strainOf 17 = .ok (.iload_n 1, 1) := by decide +kernel
theorem dX8_strainOf_18 : decode cX8_strainOf 18 = .ok (.bipush 7, 2) := by decide +kernel
theorem dX8_strainOf_20 : decode cX8_strainOf 20 = .ok (.invokevirtual 41, 3) := by decide +kernel
theorem dX8_strainOf_23 : decode cX8_strainOf 23 = .ok (.istore 5, 2) := by decide +kernel
theorem dX8_strainOf_25 : decode cX8_strainOf 25 = .ok (.iload_n 2, 1) := by decide +kernel
theorem dX8_strainOf_26 : decode cX8_strainOf 26 = .ok (.ifCond .ne 5, 3) := by decide +kernel
theorem dX8_strainOf_29 : decode cX8_strainOf 29 = .ok (.iload_n 3, 1) := by decide +kernel
theorem dX8_strainOf_30 : decode cX8_strainOf 30 = .ok (.ireturn, 1) := by decide +kernel
theorem dX8_strainOf_31 : decode cX8_strainOf 31 = .ok (.aload_n 0, 1) := by decide +kernel
theorem dX8_strainOf_32 : decode cX8_strainOf 32 = .ok (.iload_n 1, 1) := by decide +kernel
theorem dX8_strainOf_33 : decode cX8_strainOf 33 = .ok (.iconst 1, 1) := by decide +kernel
theorem dX8_strainOf_34 : decode cX8_strainOf 34 = .ok (.invokevirtual 41, 3) := by decide +kernel
theorem dX8_strainOf_37 : decode cX8_strainOf 37 = .ok (.ifCond .ne 23, 3) := by decide +kernel
theorem dX8_strainOf_40 : decode cX8_strainOf 40 = .ok (.iload_n 2, 1) := by decide +kernel
theorem dX8_strainOf_41 : decode cX8_strainOf 41 = .ok (.iconst 1, 1) := by decide +kernel
theorem dX8_strainOf_42 : decode cX8_strainOf 42 = .ok (.if_icmp .ne 15, 3) := by decide +kernel
theorem dX8_strainOf_45 : decode cX8_strainOf 45 = .ok (.iload_n 3, 1) := by decide +kernel
theorem dX8_strainOf_46 : decode cX8_strainOf 46 = .ok (.iload 4, 2) := by decide +kernel
theorem dX8_strainOf_48 : decode cX8_strainOf 48 = .ok (.iadd, 1) := by decide +kernel
theorem dX8_strainOf_49 : decode cX8_strainOf 49 = .ok (.iload 5, 2) := by decide +kernel
theorem dX8_strainOf_51 : decode cX8_strainOf 51 = .ok (.iadd, 1) := by decide +kernel
theorem dX8_strainOf_52 : decode cX8_strainOf 52 = .ok (.iconst 2, 1) := by decide +kernel
theorem dX8_strainOf_53 : decode cX8_strainOf 53 = .ok (.idiv, 1) := by decide +kernel
theorem dX8_strainOf_54 : decode cX8_strainOf 54 = .ok (.goto 5, 3) := by decide +kernel
theorem dX8_strainOf_57 : decode cX8_strainOf 57 = .ok (.iload 4, 2) := by decide +kernel
theorem dX8_strainOf_59 : decode cX8_strainOf 59 = .ok (.ireturn, 1) := by decide +kernel
theorem dX8_strainOf_60 : decode cX8_strainOf 60 = .ok (.iload_n 3, 1) := by decide +kernel
theorem dX8_strainOf_61 : decode cX8_strainOf 61 = .ok (.iconst 3, 1) := by decide +kernel
theorem dX8_strainOf_62 : decode cX8_strainOf 62 = .ok (.iload 4, 2) := by decide +kernel
theorem dX8_strainOf_64 : decode cX8_strainOf 64 = .ok (.imul, 1) := by decide +kernel
theorem dX8_strainOf_65 : decode cX8_strainOf 65 = .ok (.iadd, 1) := by decide +kernel
theorem dX8_strainOf_66 : decode cX8_strainOf 66 = .ok (.iconst 4, 1) := by decide +kernel
theorem dX8_strainOf_67 : decode cX8_strainOf 67 = .ok (.idiv, 1) := by decide +kernel
theorem dX8_strainOf_68 : decode cX8_strainOf 68 = .ok (.istore 6, 2) := by decide +kernel
theorem dX8_strainOf_70 : decode cX8_strainOf 70 = .ok (.iload 5, 2) := by decide +kernel
theorem dX8_strainOf_72 : decode cX8_strainOf 72 = .ok (.sipush 433, 3) := by decide +kernel
theorem dX8_strainOf_75 : decode cX8_strainOf 75 = .ok (.imul, 1) := by decide +kernel
theorem dX8_strainOf_76 : decode cX8_strainOf 76 = .ok (.sipush 1000, 3) := by decide +kernel
theorem dX8_strainOf_79 : decode cX8_strainOf 79 = .ok (.idiv, 1) := by decide +kernel
theorem dX8_strainOf_80 : decode cX8_strainOf 80 = .ok (.istore 7, 2) := by decide +kernel
theorem dX8_strainOf_82 : decode cX8_strainOf 82 = .ok (.iload_n 2, 1) := by decide +kernel
theorem dX8_strainOf_83 : decode cX8_strainOf 83 = .ok (.iconst 1, 1) := by decide +kernel
theorem dX8_strainOf_84 : decode cX8_strainOf 84 = .ok (.if_icmp .ne 11, 3) := by decide +kernel
theorem dX8_strainOf_87 : decode cX8_strainOf 87 = .ok (.iload 6, 2) := by decide +kernel
theorem dX8_strainOf_89 : decode cX8_strainOf 89 = .ok (.iload 7, 2) := by decide +kernel
theorem dX8_strainOf_91 : decode cX8_strainOf 91 = .ok (.iadd, 1) := by decide +kernel
theorem dX8_strainOf_92 : decode cX8_strainOf 92 = .ok (.goto 8, 3) := by decide +kernel
theorem dX8_strainOf_95 : decode cX8_strainOf 95 = .ok (.iload 6, 2) := by decide +kernel
theorem dX8_strainOf_97 : decode cX8_strainOf 97 = .ok (.iload 7, 2) := by decide +kernel
theorem dX8_strainOf_99 : decode cX8_strainOf 99 = .ok (.isub, 1) := by decide +kernel
theorem dX8_strainOf_100 : decode cX8_strainOf 100 = .ok (.ireturn, 1) := by decide +kernel
theorem dX8_led_0 : decode cX8_led 0 = .ok (.ldc2_w 65, 3) := by decide +kernel
theorem dX8_led_3 : decode cX8_led 3 = .ok (.aload_n 0, 1) := by decide +kernel
theorem dX8_led_4 : decode cX8_led 4 = .ok (.iload_n 1, 1) := by decide +kernel
theorem dX8_led_5 : decode cX8_led 5 = .ok (.iconst 2, 1) := by decide +kernel
theorem dX8_led_6 : decode cX8_led 6 = .ok (.invokevirtual 41, 3) := by decide +kernel
theorem dX8_led_9 : decode cX8_led 9 = .ok (.i2l, 1) := by decide +kernel
theorem dX8_led_10 : decode cX8_led 10 = .ok (.lmul, 1) := by decide +kernel
theorem dX8_led_11 : decode cX8_led 11 = .ok (.lstore_n 3, 1) := by decide +kernel
theorem dX8_led_12 : decode cX8_led 12 = .ok (.iload_n 2, 1) := by decide +kernel
theorem dX8_led_13 : decode cX8_led 13 = .ok (.i2l, 1) := by decide +kernel
theorem dX8_led_14 : decode cX8_led 14 = .ok (.lload_n 3, 1) := by decide +kernel
theorem dX8_led_15 : decode cX8_led 15 = .ok (.lmul, 1) := by decide +kernel
theorem dX8_led_16 : decode cX8_led 16 = .ok (.lload_n 3, 1) := by decide +kernel
theorem dX8_led_17 : decode cX8_led 17 = .ok (.aload_n 0, 1) := by decide +kernel
theorem dX8_led_18 : decode cX8_led 18 = .ok (.iload_n 1, 1) := by decide +kernel
theorem dX8_led_19 : decode cX8_led 19 = .ok (.iconst 4, 1) := by decide +kernel
theorem dX8_led_20 : decode cX8_led 20 = .ok (.invokevirtual 41, 3) := by decide +kernel
theorem dX8_led_23 : decode cX8_led 23 = .ok (.i2l, 1) := by decide +kernel
theorem dX8_led_24 : decode cX8_led 24 = .ok (.ladd, 1) := by decide +kernel
theorem dX8_led_25 : decode cX8_led 25 = .ok (.ldiv, 1) := by decide +kernel
theorem dX8_led_26 : decode cX8_led 26 = .ok (.l2i, 1) := by decide +kernel
theorem dX8_led_27 : decode cX8_led 27 = .ok (.ireturn, 1) := by decide +kernel
theorem dX8_shuntValue_0 : decode cX8_shuntValue 0 = .ok (.aload_n 0, 1) := by decide +kernel
theorem dX8_shuntValue_1 : decode cX8_shuntValue 1 = .ok (.iload_n 1, 1) := by decide +kernel
theorem dX8_shuntValue_2 : decode cX8_shuntValue 2 = .ok (.iconst 2, 1) := by decide +kernel
theorem dX8_shuntValue_3 : decode cX8_shuntValue 3 = .ok (.invokevirtual 41, 3) := by decide +kernel
theorem dX8_shuntValue_6 : decode cX8_shuntValue 6 = .ok (.ldc 67, 2) := by decide +kernel
theorem dX8_shuntValue_8 : decode cX8_shuntValue 8 = .ok (.imul, 1) := by decide +kernel
theorem dX8_shuntValue_9 : decode cX8_shuntValue 9 = .ok (.aload_n 0, 1) := by decide +kernel
theorem dX8_shuntValue_10 : decode cX8_shuntValue 10 = .ok (.iload_n 1, 1) := by decide +kernel
theorem dX8_shuntValue_11 : decode cX8_shuntValue 11 = .ok (.iconst 2, 1) := by decide +kernel
theorem dX8_shuntValue_12 : decode cX8_shuntValue 12 = .ok (.invokevirtual 41, 3) := by decide +kernel
theorem dX8_shuntValue_15 : decode cX8_shuntValue 15 = .ok (.sipush 1000, 3) := by decide +kernel
theorem dX8_shuntValue_18 : decode cX8_shuntValue 18 = .ok (.aload_n 0, 1) := by decide +kernel
theorem dX8_shuntValue_19 : decode cX8_shuntValue 19 = .ok (.getfield 7, 3) := by decide +kernel
theorem dX8_shuntValue_22 : decode cX8_shuntValue 22 = .ok (.iconst 3, 1) := by decide +kernel
theorem dX8_shuntValue_23 : decode cX8_shuntValue 23 = .ok (.iaload, 1) := by decide +kernel
theorem dX8_shuntValue_24 : decode cX8_shuntValue 24 = .ok (.imul, 1) := by decide +kernel
theorem dX8_shuntValue_25 : decode cX8_shuntValue 25 = .ok (.iadd, 1) := by decide +kernel
theorem dX8_shuntValue_26 : decode cX8_shuntValue 26 = .ok (.idiv, 1) := by decide +kernel
theorem dX8_shuntValue_27 : decode cX8_shuntValue 27 = .ok (.ireturn, 1) := by decide +kernel
theorem dX8_signalOf_0 : decode cX8_signalOf 0 = .ok (.aload_n 0, 1) := by decide +kernel
theorem dX8_signalOf_1 : decode cX8_signalOf 1 = .ok (.iload_n 1, 1) := by decide +kernel
theorem dX8_signalOf_2 : decode cX8_signalOf 2 = .ok (.aload_n 0, 1) := by decide +kernel
theorem dX8_signalOf_3 : decode cX8_signalOf 3 = .ok (.iload_n 1, 1) := by decide +kernel
theorem dX8_signalOf_4 : decode cX8_signalOf 4 = .ok (.iload_n 2, 1) := by decide +kernel
theorem dX8_signalOf_5 : decode cX8_signalOf 5 = .ok (.iconst 0, 1) := by decide +kernel
theorem dX8_signalOf_6 : decode cX8_signalOf 6 = .ok (.invokevirtual 68, 3) := by decide +kernel
theorem dX8_signalOf_9 : decode cX8_signalOf 9 = .ok (.invokevirtual 72, 3) := by decide +kernel
theorem dX8_signalOf_12 : decode cX8_signalOf 12 = .ok (.aload_n 0, 1) := by decide +kernel
theorem dX8_signalOf_13 : decode cX8_signalOf 13 = .ok (.iload_n 1, 1) := by decide +kernel
theorem dX8_signalOf_14 : decode cX8_signalOf 14 = .ok (.aload_n 0, 1) := by decide +kernel
theorem dX8_signalOf_15 : decode cX8_signalOf 15 = .ok (.iload_n 1, 1) := by decide +kernel
theorem dX8_signalOf_16 : decode cX8_signalOf 16 = .ok (.iload_n 2, 1) := by decide +kernel
theorem dX8_signalOf_17 : decode cX8_signalOf 17 = .ok (.invokevirtual 75, 3) := by decide +kernel
theorem dX8_signalOf_20 : decode cX8_signalOf 20 = .ok (.aload_n 0, 1) := by decide +kernel
theorem dX8_signalOf_21 : decode cX8_signalOf 21 = .ok (.iload_n 1, 1) := by decide +kernel
theorem dX8_signalOf_22 : decode cX8_signalOf 22 = .ok (.iconst 3, 1) := by decide +kernel
theorem dX8_signalOf_23 : decode cX8_signalOf 23 = .ok (.invokevirtual 41, 3) := by decide +kernel
theorem dX8_signalOf_26 : decode cX8_signalOf 26 = .ok (.imul, 1) := by decide +kernel
theorem dX8_signalOf_27 : decode cX8_signalOf 27 = .ok (.bipush 100, 2) := by decide +kernel
theorem dX8_signalOf_29 : decode cX8_signalOf 29 = .ok (.idiv, 1) := by decide +kernel
theorem dX8_signalOf_30 : decode cX8_signalOf 30 = .ok (.invokevirtual 72, 3) := by decide +kernel
theorem dX8_signalOf_33 : decode cX8_signalOf 33 = .ok (.iadd, 1) := by decide +kernel
theorem dX8_signalOf_34 : decode cX8_signalOf 34 = .ok (.istore 4, 2) := by decide +kernel
theorem dX8_signalOf_36 : decode cX8_signalOf 36 = .ok (.iload 4, 2) := by decide +kernel
theorem dX8_signalOf_38 : decode cX8_signalOf 38 = .ok (.iload_n 3, 1) := by decide +kernel
theorem dX8_signalOf_39 : decode cX8_signalOf 39 = .ok (.iconst 1, 1) := by decide +kernel
theorem dX8_signalOf_40 : decode cX8_signalOf 40 = .ok (.if_icmp .ne 16, 3) := by decide +kernel
theorem dX8_signalOf_43 : decode cX8_signalOf 43 = .ok (.aload_n 0, 1) := by decide +kernel
theorem dX8_signalOf_44 : decode cX8_signalOf 44 = .ok (.iload_n 1, 1) := by decide +kernel
theorem dX8_signalOf_45 : decode cX8_signalOf 45 = .ok (.aload_n 0, 1) := by decide +kernel
theorem dX8_signalOf_46 : decode cX8_signalOf 46 = .ok (.iload_n 1, 1) := by decide +kernel
theorem dX8_signalOf_47 : decode cX8_signalOf 47 = .ok (.invokevirtual 78, 3) := by decide +kernel
theorem dX8_signalOf_50 : decode cX8_signalOf 50 = .ok (.invokevirtual 72, 3) := by decide +kernel
theorem dX8_signalOf_53 : decode cX8_signalOf 53 = .ok (.goto 4, 3) := by decide +kernel
theorem dX8_signalOf_56 : decode cX8_signalOf 56 = .ok (.iconst 0, 1) := by decide +kernel
theorem dX8_signalOf_57 : decode cX8_signalOf 57 = .ok (.iadd, 1) := by decide +kernel
theorem dX8_signalOf_58 : decode cX8_signalOf 58 = .ok (.istore 4, 2) := by decide +kernel
theorem dX8_signalOf_60 : decode cX8_signalOf 60 = .ok (.iload 4, 2) := by decide +kernel
theorem dX8_signalOf_62 : decode cX8_signalOf 62 = .ok (.aload_n 0, 1) := by decide +kernel
theorem dX8_signalOf_63 : decode cX8_signalOf 63 = .ok (.iload_n 1, 1) := by decide +kernel
theorem dX8_signalOf_64 : decode cX8_signalOf 64 = .ok (.iload_n 2, 1) := by decide +kernel
theorem dX8_signalOf_65 : decode cX8_signalOf 65 = .ok (.iconst 1, 1) := by decide +kernel
theorem dX8_signalOf_66 : decode cX8_signalOf 66 = .ok (.invokevirtual 68, 3) := by decide +kernel
theorem dX8_signalOf_69 : decode cX8_signalOf 69 = .ok (.isub, 1) := by decide +kernel
theorem dX8_signalOf_70 : decode cX8_signalOf 70 = .ok (.ireturn, 1) := by decide +kernel
theorem dX8_isOver_0 : decode cX8_isOver 0 = .ok (.aload_n 0, 1) := by decide +kernel
theorem dX8_isOver_1 : decode cX8_isOver 1 = .ok (.iload_n 1, 1) := by decide +kernel
theorem dX8_isOver_2 : decode cX8_isOver 2 = .ok (.iload_n 2, 1) := by decide +kernel
theorem dX8_isOver_3 : decode cX8_isOver 3 = .ok (.iload_n 3, 1) := by decide +kernel
theorem dX8_isOver_4 : decode cX8_isOver 4 = .ok (.invokevirtual 81, 3) := by decide +kernel
theorem dX8_isOver_7 : decode cX8_isOver 7 = .ok (.invokestatic 84, 3) := by decide +kernel
theorem dX8_isOver_10 : decode cX8_isOver 10 = .ok (.sipush 30000, 3) := by decide +kernel
theorem dX8_isOver_13 : decode cX8_isOver 13 = .ok (.if_icmp .le 7, 3) := by decide +kernel
theorem dX8_isOver_16 : decode cX8_isOver 16 = .ok (.iconst 1, 1) := by decide +kernel
theorem dX8_isOver_17 : decode cX8_isOver 17 = .ok (.goto 4, 3) := by decide +kernel
theorem dX8_isOver_20 : decode cX8_isOver 20 = .ok (.iconst 0, 1) := by decide +kernel
theorem dX8_isOver_21 : decode cX8_isOver 21 = .ok (.ireturn, 1) := by decide +kernel
theorem dX8_readingBy_0 : decode cX8_readingBy 0 = .ok (.aload_n 0, 1) := by decide +kernel
theorem dX8_readingBy_1 : decode cX8_readingBy 1 = .ok (.iload_n 1, 1) := by decide +kernel
theorem dX8_readingBy_2 : decode cX8_readingBy 2 = .ok (.iload_n 2, 1) := by decide +kernel
theorem dX8_readingBy_3 : decode cX8_readingBy 3 = .ok (.iload_n 3, 1) := by decide +kernel
theorem dX8_readingBy_4 : decode cX8_readingBy 4 = .ok (.invokevirtual 81, 3) := by decide +kernel
theorem dX8_readingBy_7 : decode cX8_readingBy 7 = .ok (.istore 4, 2) := by decide +kernel
theorem dX8_readingBy_9 : decode cX8_readingBy 9 = .ok (.iload 4, 2) := by decide +kernel
theorem dX8_readingBy_11 : decode cX8_readingBy 11 = .ok (.sipush (-30000), 3) := by decide +kernel
theorem dX8_readingBy_14 : decode cX8_readingBy 14 = .ok (.if_icmp .ge 9, 3) := by decide +kernel
theorem dX8_readingBy_17 : decode cX8_readingBy 17 = .ok (.sipush (-30000), 3) := by decide +kernel
theorem dX8_readingBy_20 : decode cX8_readingBy 20 = .ok (.goto 19, 3) := by decide +kernel
theorem dX8_readingBy_23 : decode cX8_readingBy 23 = .ok (.iload 4, 2) := by decide +kernel
theorem dX8_readingBy_25 : decode cX8_readingBy 25 = .ok (.sipush 30000, 3) := by decide +kernel
theorem dX8_readingBy_28 : decode cX8_readingBy 28 = .ok (.if_icmp .le 9, 3) := by decide +kernel
theorem dX8_readingBy_31 : decode cX8_readingBy 31 = .ok (.sipush 30000, 3) := by decide +kernel
theorem dX8_readingBy_34 : decode cX8_readingBy 34 = .ok (.goto 5, 3) := by decide +kernel
theorem dX8_readingBy_37 : decode cX8_readingBy 37 = .ok (.iload 4, 2) := by decide +kernel
theorem dX8_readingBy_39 : decode cX8_readingBy 39 = .ok (.ireturn, 1) := by decide +kernel
theorem dX8_readingOf_0 : decode cX8_readingOf 0 = .ok (.aload_n 0, 1) := by decide +kernel
theorem dX8_readingOf_1 : decode cX8_readingOf 1 = .ok (.iload_n 1, 1) := by decide +kernel
theorem dX8_readingOf_2 : decode cX8_readingOf 2 = .ok (.iload_n 2, 1) := by decide +kernel
theorem dX8_readingOf_3 : decode cX8_readingOf 3 = .ok (.aload_n 0, 1) := by decide +kernel
theorem dX8_readingOf_4 : decode cX8_readingOf 4 = .ok (.iload_n 1, 1) := by decide +kernel
theorem dX8_readingOf_5 : decode cX8_readingOf 5 = .ok (.bipush 8, 2) := by decide +kernel
theorem dX8_readingOf_7 : decode cX8_readingOf 7 = .ok (.invokevirtual 41, 3) := by decide +kernel
theorem dX8_readingOf_10 : decode cX8_readingOf 10 = .ok (.invokevirtual 87, 3) := by decide +kernel
theorem dX8_readingOf_13 : decode cX8_readingOf 13 = .ok (.ireturn, 1) := by decide +kernel
theorem dX8_stepOf_0 : decode cX8_stepOf 0 = .ok (.aload_n 0, 1) := by decide +kernel
theorem dX8_stepOf_1 : decode cX8_stepOf 1 = .ok (.iload_n 1, 1) := by decide +kernel
theorem dX8_stepOf_2 : decode cX8_stepOf 2 = .ok (.iload_n 2, 1) := by decide +kernel
theorem dX8_stepOf_3 : decode cX8_stepOf 3 = .ok (.iconst 1, 1) := by decide +kernel
theorem dX8_stepOf_4 : decode cX8_stepOf 4 = .ok (.invokevirtual 87, 3) := by decide +kernel
theorem dX8_stepOf_7 : decode cX8_stepOf 7 = .ok (.aload_n 0, 1) := by decide +kernel
theorem dX8_stepOf_8 : decode cX8_stepOf 8 = .ok (.iload_n 1, 1) := by decide +kernel
theorem dX8_stepOf_9 : decode cX8_stepOf 9 = .ok (.iload_n 2, 1) := by decide +kernel
theorem dX8_stepOf_10 : decode cX8_stepOf 10 = .ok (.iconst 0, 1) := by decide +kernel
theorem dX8_stepOf_11 : decode cX8_stepOf 11 = .ok (.invokevirtual 87, 3) := by decide +kernel
theorem dX8_stepOf_14 : decode cX8_stepOf 14 = .ok (.isub, 1) := by decide +kernel
theorem dX8_stepOf_15 : decode cX8_stepOf 15 = .ok (.ireturn, 1) := by decide +kernel
theorem dX8_correctedOf_0 : decode cX8_correctedOf 0 = .ok (.aload_n 0, 1) := by decide +kernel
theorem dX8_correctedOf_1 : decode cX8_correctedOf 1 = .ok (.iload_n 1, 1) := by decide +kernel
theorem dX8_correctedOf_2 : decode cX8_correctedOf 2 = .ok (.iload_n 2, 1) := by decide +kernel
theorem dX8_correctedOf_3 : decode cX8_correctedOf 3 = .ok (.invokevirtual 90, 3) := by decide +kernel
theorem dX8_correctedOf_6 : decode cX8_correctedOf 6 = .ok (.i2l, 1) := by decide +kernel
theorem dX8_correctedOf_7 : decode cX8_correctedOf 7 = .ok (.aload_n 0, 1) := by decide +kernel
theorem dX8_correctedOf_8 : decode cX8_correctedOf 8 = .ok (.iload_n 1, 1) := by decide +kernel
theorem dX8_correctedOf_9 : decode cX8_correctedOf 9 = .ok (.iload_n 2, 1) := by decide +kernel
theorem dX8_correctedOf_10 : decode cX8_correctedOf 10 = .ok (.iconst 2, 1) := by decide +kernel
theorem dX8_correctedOf_11 : decode cX8_correctedOf 11 = .ok (.invokevirtual 68, 3) := by decide +kernel
theorem dX8_correctedOf_14 : decode cX8_correctedOf 14 = .ok (.i2l, 1) := by decide +kernel
theorem dX8_correctedOf_15 : decode cX8_correctedOf 15 = .ok (.lmul, 1) := by decide +kernel
theorem dX8_correctedOf_16 : decode cX8_correctedOf 16 = .ok (.ldc2_w 65, 3) := by decide +kernel
theorem dX8_correctedOf_19 : decode cX8_correctedOf 19 = .ok (.ldiv, 1) := by decide +kernel
theorem dX8_correctedOf_20 : decode cX8_correctedOf 20 = .ok (.lstore_n 3, 1) := by decide +kernel
theorem dX8_correctedOf_21 : decode cX8_correctedOf 21 = .ok (.lload_n 3, 1) := by decide +kernel
theorem dX8_correctedOf_22 : decode cX8_correctedOf 22 = .ok (.ldc2_w 93, 3) := by decide +kernel
theorem dX8_correctedOf_25 : decode cX8_correctedOf 25 = .ok (.lmul, 1) := by decide +kernel
theorem dX8_correctedOf_26 : decode cX8_correctedOf 26 = .ok (.aload_n 0, 1) := by decide +kernel
theorem dX8_correctedOf_27 : decode cX8_correctedOf 27 = .ok (.iload_n 1, 1) := by decide +kernel
theorem dX8_correctedOf_28 : decode cX8_correctedOf 28 = .ok (.iconst 3, 1) := by decide +kernel
theorem dX8_correctedOf_29 : decode cX8_correctedOf 29 = .ok (.invokevirtual 41, 3) := by decide +kernel
theorem dX8_correctedOf_32 : decode cX8_correctedOf 32 = .ok (.i2l, 1) := by decide +kernel
theorem dX8_correctedOf_33 : decode cX8_correctedOf 33 = .ok (.ldiv, 1) := by decide +kernel
theorem dX8_correctedOf_34 : decode cX8_correctedOf 34 = .ok (.l2i, 1) := by decide +kernel
theorem dX8_correctedOf_35 : decode cX8_correctedOf 35 = .ok (.ireturn, 1) := by decide +kernel
theorem dX8_overloaded_0 : decode cX8_overloaded 0 = .ok (.iconst 0, 1) := by decide +kernel
theorem dX8_overloaded_1 : decode cX8_overloaded 1 = .ok (.istore_n 2, 1) := by decide +kernel
theorem dX8_overloaded_2 : decode cX8_overloaded 2 = .ok (.iconst 0, 1) := by decide +kernel
theorem dX8_overloaded_3 : decode cX8_overloaded 3 = .ok (.istore_n 3, 1) := by decide +kernel
theorem dX8_overloaded_4 : decode cX8_overloaded 4 = .ok (.iload_n 3, 1) := by decide +kernel
theorem dX8_overloaded_5 : decode cX8_overloaded 5 = .ok (.iconst 3, 1) := by decide +kernel
theorem dX8_overloaded_6 : decode cX8_overloaded 6 = .ok (.if_icmp .ge 33, 3) := by decide +kernel
theorem dX8_overloaded_9 : decode cX8_overloaded 9 = .ok (.iload_n 2, 1) := by decide +kernel
theorem dX8_overloaded_10 : decode cX8_overloaded 10 = .ok (.aload_n 0, 1) := by decide +kernel
theorem dX8_overloaded_11 : decode cX8_overloaded 11 = .ok (.iload_n 1, 1) := by decide +kernel
theorem dX8_overloaded_12 : decode cX8_overloaded 12 = .ok (.iload_n 3, 1) := by decide +kernel
theorem dX8_overloaded_13 : decode cX8_overloaded 13 = .ok (.aload_n 0, 1) := by decide +kernel
theorem dX8_overloaded_14 : decode cX8_overloaded 14 = .ok (.iload_n 1, 1) := by decide +kernel
theorem dX8_overloaded_15 : decode cX8_overloaded 15 = .ok (.bipush 8, 2) := by decide +kernel
theorem dX8_overloaded_17 : decode cX8_overloaded 17 = .ok (.invokevirtual 41, 3) := by decide +kernel
theorem dX8_overloaded_20 : decode cX8_overloaded 20 = .ok (.invokevirtual 95, 3) := by decide +kernel
theorem dX8_overloaded_23 : decode cX8_overloaded 23 = .ok (.ifCond .eq 7, 3) := by decide +kernel
theorem dX8_overloaded_26 : decode cX8_overloaded 26 = .ok (.iconst 1, 1) := by decide +kernel
theorem dX8_overloaded_27 : decode cX8_overloaded 27 = .ok (.goto 4, 3) := by decide +kernel
theorem dX8_overloaded_30 : decode cX8_overloaded 30 = .ok (.iconst 0, 1) := by decide +kernel
theorem dX8_overloaded_31 : decode cX8_overloaded 31 = .ok (.iadd, 1) := by decide +kernel
theorem dX8_overloaded_32 : decode cX8_overloaded 32 = .ok (.istore_n 2, 1) := by decide +kernel
theorem dX8_overloaded_33 : decode cX8_overloaded 33 = .ok (.iinc 3 1, 3) := by decide +kernel
theorem dX8_overloaded_36 : decode cX8_overloaded 36 = .ok (.goto (-32), 3) := by decide +kernel
theorem dX8_overloaded_39 : decode cX8_overloaded 39 = .ok (.iload_n 2, 1) := by decide +kernel
theorem dX8_overloaded_40 : decode cX8_overloaded 40 = .ok (.ireturn, 1) := by decide +kernel
theorem dX8_firstOf_0 : decode cX8_firstOf 0 = .ok (.iload_n 0, 1) := by decide +kernel
theorem dX8_firstOf_1 : decode cX8_firstOf 1 = .ok (.tableswitch 63 0 5 #[39, 43, 47, 51, 55, 59], 39) := by decide +kernel
theorem dX8_firstOf_40 : decode cX8_firstOf 40 = .ok (.sipush 10000, 3) := by decide +kernel
theorem dX8_firstOf_43 : decode cX8_firstOf 43 = .ok (.ireturn, 1) := by decide +kernel
theorem dX8_firstOf_44 : decode cX8_firstOf 44 = .ok (.sipush 9659, 3) := by decide +kernel
theorem dX8_firstOf_47 : decode cX8_firstOf 47 = .ok (.ireturn, 1) := by decide +kernel
theorem dX8_firstOf_48 : decode cX8_firstOf 48 = .ok (.sipush 8660, 3) := by decide +kernel
theorem dX8_firstOf_51 : decode cX8_firstOf 51 = .ok (.ireturn, 1) := by decide +kernel
theorem dX8_firstOf_52 : decode cX8_firstOf 52 = .ok (.sipush 7071, 3) := by decide +kernel
theorem dX8_firstOf_55 : decode cX8_firstOf 55 = .ok (.ireturn, 1) := by decide +kernel
theorem dX8_firstOf_56 : decode cX8_firstOf 56 = .ok (.sipush 5000, 3) := by decide +kernel
theorem dX8_firstOf_59 : decode cX8_firstOf 59 = .ok (.ireturn, 1) := by decide +kernel
theorem dX8_firstOf_60 : decode cX8_firstOf 60 = .ok (.sipush 2588, 3) := by decide +kernel
theorem dX8_firstOf_63 : decode cX8_firstOf 63 = .ok (.ireturn, 1) := by decide +kernel
theorem dX8_firstOf_64 : decode cX8_firstOf 64 = .ok (.iconst 0, 1) := by decide +kernel
theorem dX8_firstOf_65 : decode cX8_firstOf 65 = .ok (.ireturn, 1) := by decide +kernel
theorem dX8_cos_0 : decode cX8_cos 0 = .ok (.iload_n 0, 1) := by decide +kernel
theorem dX8_cos_1 : decode cX8_cos 1 = .ok (.bipush 12, 2) := by decide +kernel
theorem dX8_cos_3 : decode cX8_cos 3 = .ok (.if_icmp .le 10, 3) := by decide +kernel
theorem dX8_cos_6 : decode cX8_cos 6 = .ok (.bipush 24, 2) := by decide +kernel
theorem dX8_cos_8 : decode cX8_cos 8 = .ok (.iload_n 0, 1) := by decide +kernel
theorem dX8_cos_9 : decode cX8_cos 9 = .ok (.isub, 1) := by decide +kernel
theorem dX8_cos_10 : decode cX8_cos 10 = .ok (.goto 4, 3) := by decide +kernel
theorem dX8_cos_13 : decode cX8_cos 13 = .ok (.iload_n 0, 1) := by decide +kernel
theorem dX8_cos_14 : decode cX8_cos 14 = .ok (.istore_n 1, 1) := by decide +kernel
theorem dX8_cos_15 : decode cX8_cos 15 = .ok (.iload_n 1, 1) := by decide +kernel
theorem dX8_cos_16 : decode cX8_cos 16 = .ok (.bipush 6, 2) := by decide +kernel
theorem dX8_cos_18 : decode cX8_cos 18 = .ok (.if_icmp .gt 10, 3) := by decide +kernel
theorem dX8_cos_21 : decode cX8_cos 21 = .ok (.iload_n 1, 1) := by decide +kernel
theorem dX8_cos_22 : decode cX8_cos 22 = .ok (.invokestatic 98, 3) := by decide +kernel
theorem dX8_cos_25 : decode cX8_cos 25 = .ok (.goto 11, 3) := by decide +kernel
theorem dX8_cos_28 : decode cX8_cos 28 = .ok (.bipush 12, 2) := by decide +kernel
theorem dX8_cos_30 : decode cX8_cos 30 = .ok (.iload_n 1, 1) := by decide +kernel
theorem dX8_cos_31 : decode cX8_cos 31 = .ok (.isub, 1) := by decide +kernel
theorem dX8_cos_32 : decode cX8_cos 32 = .ok (.invokestatic 98, 3) := by decide +kernel
theorem dX8_cos_35 : decode cX8_cos 35 = .ok (.ineg, 1) := by decide +kernel
theorem dX8_cos_36 : decode cX8_cos 36 = .ok (.ireturn, 1) := by decide +kernel
theorem dX8_sin_0 : decode cX8_sin 0 = .ok (.iload_n 0, 1) := by decide +kernel
theorem dX8_sin_1 : decode cX8_sin 1 = .ok (.bipush 6, 2) := by decide +kernel
theorem dX8_sin_3 : decode cX8_sin 3 = .ok (.if_icmp .lt 13, 3) := by decide +kernel
theorem dX8_sin_6 : decode cX8_sin 6 = .ok (.iload_n 0, 1) := by decide +kernel
theorem dX8_sin_7 : decode cX8_sin 7 = .ok (.bipush 6, 2) := by decide +kernel
theorem dX8_sin_9 : decode cX8_sin 9 = .ok (.isub, 1) := by decide +kernel
theorem dX8_sin_10 : decode cX8_sin 10 = .ok (.invokestatic 101, 3) := by decide +kernel
theorem dX8_sin_13 : decode cX8_sin 13 = .ok (.goto 10, 3) := by decide +kernel
theorem dX8_sin_16 : decode cX8_sin 16 = .ok (.bipush 6, 2) := by decide +kernel
theorem dX8_sin_18 : decode cX8_sin 18 = .ok (.iload_n 0, 1) := by decide +kernel
theorem dX8_sin_19 : decode cX8_sin 19 = .ok (.isub, 1) := by decide +kernel
theorem dX8_sin_20 : decode cX8_sin 20 = .ok (.invokestatic 101, 3) := by decide +kernel
theorem dX8_sin_23 : decode cX8_sin 23 = .ok (.ireturn, 1) := by decide +kernel
theorem dX8_pullOf_0 : decode cX8_pullOf 0 = .ok (.aload_n 0, 1) := by decide +kernel
theorem dX8_pullOf_1 : decode cX8_pullOf 1 = .ok (.getfield 104, 3) := by decide +kernel
theorem dX8_pullOf_4 : decode cX8_pullOf 4 = .ok (.aload_n 0, 1) := by decide +kernel
theorem dX8_pullOf_5 : decode cX8_pullOf 5 = .ok (.getfield 108, 3) := by decide +kernel
theorem dX8_pullOf_8 : decode cX8_pullOf 8 = .ok (.lsub, 1) := by decide +kernel
theorem dX8_pullOf_9 : decode cX8_pullOf 9 = .ok (.iload_n 1, 1) := by decide +kernel
theorem dX8_pullOf_10 : decode cX8_pullOf 10 = .ok (.invokestatic 101, 3) := by decide +kernel
theorem dX8_pullOf_13 : decode cX8_pullOf 13 = .ok (.i2l, 1) := by decide +kernel
theorem dX8_pullOf_14 : decode cX8_pullOf 14 = .ok (.lmul, 1) := by decide +kernel
theorem dX8_pullOf_15 : decode cX8_pullOf 15 = .ok (.aload_n 0, 1) := by decide +kernel
theorem dX8_pullOf_16 : decode cX8_pullOf 16 = .ok (.getfield 111, 3) := by decide +kernel
theorem dX8_pullOf_19 : decode cX8_pullOf 19 = .ok (.iload_n 1, 1) := by decide +kernel
theorem dX8_pullOf_20 : decode cX8_pullOf 20 = .ok (.invokestatic 114, 3) := by decide +kernel
theorem dX8_pullOf_23 : decode cX8_pullOf 23 = .ok (.i2l, 1) := by decide +kernel
theorem dX8_pullOf_24 : decode cX8_pullOf 24 = .ok (.lmul, 1) := by decide +kernel
theorem dX8_pullOf_25 : decode cX8_pullOf 25 = .ok (.ladd, 1) := by decide +kernel
theorem dX8_pullOf_26 : decode cX8_pullOf 26 = .ok (.lreturn, 1) := by decide +kernel
theorem dX8_mean_0 : decode cX8_mean 0 = .ok (.aload_n 0, 1) := by decide +kernel
theorem dX8_mean_1 : decode cX8_mean 1 = .ok (.getfield 104, 3) := by decide +kernel
theorem dX8_mean_4 : decode cX8_mean 4 = .ok (.aload_n 0, 1) := by decide +kernel
theorem dX8_mean_5 : decode cX8_mean 5 = .ok (.getfield 108, 3) := by decide +kernel
theorem dX8_mean_8 : decode cX8_mean 8 = .ok (.ladd, 1) := by decide +kernel
theorem dX8_mean_9 : decode cX8_mean 9 = .ok (.ldc2_w 117, 3) := by decide +kernel
theorem dX8_mean_12 : decode cX8_mean 12 = .ok (.ldiv, 1) := by decide +kernel
theorem dX8_mean_13 : decode cX8_mean 13 = .ok (.lreturn, 1) := by decide +kernel
theorem dX8_radius_0 : decode cX8_radius 0 = .ok (.aload_n 0, 1) := by decide +kernel
theorem dX8_radius_1 : decode cX8_radius 1 = .ok (.getfield 119, 3) := by decide +kernel
theorem dX8_radius_4 : decode cX8_radius 4 = .ok (.ldc2_w 122, 3) := by decide +kernel
theorem dX8_radius_7 : decode cX8_radius 7 = .ok (.ldiv, 1) := by decide +kernel
theorem dX8_radius_8 : decode cX8_radius 8 = .ok (.lreturn, 1) := by decide +kernel
theorem dX8_find_0 : decode cX8_find 0 = .ok (.aload_n 0, 1) := by decide +kernel
theorem dX8_find_1 : decode cX8_find 1 = .ok (.iload_n 1, 1) := by decide +kernel
theorem dX8_find_2 : decode cX8_find 2 = .ok (.iconst 0, 1) := by decide +kernel
theorem dX8_find_3 : decode cX8_find 3 = .ok (.invokevirtual 124, 3) := by decide +kernel
theorem dX8_find_6 : decode cX8_find 6 = .ok (.i2l, 1) := by decide +kernel
theorem dX8_find_7 : decode cX8_find 7 = .ok (.lstore_n 2, 1) := by decide +kernel
theorem dX8_find_8 : decode cX8_find 8 = .ok (.aload_n 0, 1) := by decide +kernel
theorem dX8_find_9 : decode cX8_find 9 = .ok (.iload_n 1, 1) := by decide +kernel
theorem dX8_find_10 : decode cX8_find 10 = .ok (.iconst 1, 1) := by decide +kernel
theorem dX8_find_11 : decode cX8_find 11 = .ok (.invokevirtual 124, 3) := by decide +kernel
theorem dX8_find_14 : decode cX8_find 14 = .ok (.i2l, 1) := by decide +kernel
theorem dX8_find_15 : decode cX8_find 15 = .ok (.lstore 4, 2) := by decide +kernel
theorem dX8_find_17 : decode cX8_find 17 = .ok (.aload_n 0, 1) := by decide +kernel
theorem dX8_find_18 : decode cX8_find 18 = .ok (.iload_n 1, 1) := by decide +kernel
theorem dX8_find_19 : decode cX8_find 19 = .ok (.iconst 2, 1) := by decide +kernel
theorem dX8_find_20 : decode cX8_find 20 = .ok (.invokevirtual 124, 3) := by decide +kernel
theorem dX8_find_23 : decode cX8_find 23 = .ok (.i2l, 1) := by decide +kernel
theorem dX8_find_24 : decode cX8_find 24 = .ok (.lstore 6, 2) := by decide +kernel
theorem dX8_find_26 : decode cX8_find 26 = .ok (.aload_n 0, 1) := by decide +kernel
theorem dX8_find_27 : decode cX8_find 27 = .ok (.lload_n 2, 1) := by decide +kernel
theorem dX8_find_28 : decode cX8_find 28 = .ok (.putfield 104, 3) := by decide +kernel
theorem dX8_find_31 : decode cX8_find 31 = .ok (.aload_n 0, 1) := by decide +kernel
theorem dX8_find_32 : decode cX8_find 32 = .ok (.iload_n 1, 1) := by decide +kernel
theorem dX8_find_33 : decode cX8_find 33 = .ok (.iconst 1, 1) := by decide +kernel
theorem dX8_find_34 : decode cX8_find 34 = .ok (.invokevirtual 41, 3) := by decide +kernel
theorem dX8_find_37 : decode cX8_find 37 = .ok (.ifCond .ne 27, 3) := by decide +kernel
theorem dX8_find_40 : decode cX8_find 40 = .ok (.aload_n 0, 1) := by decide +kernel
theorem dX8_find_41 : decode cX8_find 41 = .ok (.lload 6, 2) := by decide +kernel
theorem dX8_find_43 : decode cX8_find 43 = .ok (.putfield 108, 3) := by decide +kernel
theorem dX8_find_46 : decode cX8_find 46 = .ok (.aload_n 0, 1) := by decide +kernel
theorem dX8_find_47 : decode cX8_find 47 = .ok (.ldc2_w 117, 3) := by decide +kernel
theorem dX8_find_50 : decode cX8_find 50 = .ok (.lload 4, 2) := by decide +kernel
theorem dX8_find_52 : decode cX8_find 52 = .ok (.lmul, 1) := by decide +kernel
theorem dX8_find_53 : decode cX8_find 53 = .ok (.lload_n 2, 1) := by decide +kernel
theorem dX8_find_54 : decode cX8_find 54 = .ok (.lsub, 1) := by decide +kernel
theorem dX8_find_55 : decode cX8_find 55 = .ok (.lload 6, 2) := by decide +kernel
theorem dX8_find_57 : decode cX8_find 57 = .ok (.lsub, 1) := by decide +kernel
theorem dX8_find_58 : decode cX8_find 58 = .ok (.putfield 111, 3) := by decide +kernel
theorem dX8_find_61 : decode cX8_find 61 = .ok (.goto 43, 3) := by decide +kernel
theorem dX8_find_64 : decode cX8_find 64 = .ok (.aload_n 0, 1) := by decide +kernel
theorem dX8_find_65 : decode cX8_find 65 = .ok (.ldc2_w 117, 3) := by decide +kernel
theorem dX8_find_68 : decode cX8_find 68 = .ok (.lload 4, 2) := by decide +kernel
theorem dX8_find_70 : decode cX8_find 70 = .ok (.lmul, 1) := by decide +kernel
theorem dX8_find_71 : decode cX8_find 71 = .ok (.ldc2_w 117, 3) := by decide +kernel
theorem dX8_find_74 : decode cX8_find 74 = .ok (.lload 6, 2) := by decide +kernel
theorem dX8_find_76 : decode cX8_find 76 = .ok (.lmul, 1) := by decide +kernel
theorem dX8_find_77 : decode cX8_find 77 = .ok (.ladd, 1) := by decide +kernel
theorem dX8_find_78 : decode cX8_find 78 = .ok (.lload_n 2, 1) := by decide +kernel
theorem dX8_find_79 : decode cX8_find 79 = .ok (.lsub, 1) := by decide +kernel
theorem dX8_find_80 : decode cX8_find 80 = .ok (.ldc2_w 127, 3) := by decide +kernel
theorem dX8_find_83 : decode cX8_find 83 = .ok (.ldiv, 1) := by decide +kernel
theorem dX8_find_84 : decode cX8_find 84 = .ok (.putfield 108, 3) := by decide +kernel
theorem dX8_find_87 : decode cX8_find 87 = .ok (.aload_n 0, 1) := by decide +kernel
theorem dX8_find_88 : decode cX8_find 88 = .ok (.lload 4, 2) := by decide +kernel
theorem dX8_find_90 : decode cX8_find 90 = .ok (.lload 6, 2) := by decide +kernel
theorem dX8_find_92 : decode cX8_find 92 = .ok (.lsub, 1) := by decide +kernel
theorem dX8_find_93 : decode cX8_find 93 = .ok (.ldc2_w 129, 3) := by decide +kernel
theorem dX8_find_96 : decode cX8_find 96 = .ok (.lmul, 1) := by decide +kernel
theorem dX8_find_97 : decode cX8_find 97 = .ok (.ldc2_w 131, 3) := by decide +kernel
theorem dX8_find_100 : decode cX8_find 100 = .ok (.ldiv, 1) := by decide +kernel
theorem dX8_find_101 : decode cX8_find 101 = .ok (.putfield 111, 3) := by decide +kernel
theorem dX8_find_104 : decode cX8_find 104 = .ok (.aload_n 0, 1) := by decide +kernel
theorem dX8_find_105 : decode cX8_find 105 = .ok (.iconst 0, 1) := by decide +kernel
theorem dX8_find_106 : decode cX8_find 106 = .ok (.putfield 133, 3) := by decide +kernel
theorem dX8_find_109 : decode cX8_find 109 = .ok (.aload_n 0, 1) := by decide +kernel
theorem dX8_find_110 : decode cX8_find 110 = .ok (.aload_n 0, 1) := by decide +kernel
theorem dX8_find_111 : decode cX8_find 111 = .ok (.iconst 0, 1) := by decide +kernel
theorem dX8_find_112 : decode cX8_find 112 = .ok (.invokevirtual 136, 3) := by decide +kernel
theorem dX8_find_115 : decode cX8_find 115 = .ok (.putfield 119, 3) := by decide +kernel
theorem dX8_find_118 : decode cX8_find 118 = .ok (.iconst 1, 1) := by decide +kernel
theorem dX8_find_119 : decode cX8_find 119 = .ok (.istore 8, 2) := by decide +kernel
theorem dX8_find_121 : decode cX8_find 121 = .ok (.iload 8, 2) := by decide +kernel
theorem dX8_find_123 : decode cX8_find 123 = .ok (.bipush 24, 2) := by decide +kernel
theorem dX8_find_125 : decode cX8_find 125 = .ok (.if_icmp .ge 39, 3) := by decide +kernel
theorem dX8_find_128 : decode cX8_find 128 = .ok (.aload_n 0, 1) := by decide +kernel
theorem dX8_find_129 : decode cX8_find 129 = .ok (.iload 8, 2) := by decide +kernel
theorem dX8_find_131 : decode cX8_find 131 = .ok (.invokevirtual 136, 3) := by decide +kernel
theorem dX8_find_134 : decode cX8_find 134 = .ok (.aload_n 0, 1) := by decide +kernel
theorem dX8_find_135 : decode cX8_find 135 = .ok (.getfield 119, 3) := by decide +kernel
theorem dX8_find_138 : decode cX8_find 138 = .ok (.lcmp, 1) := by decide +kernel
theorem dX8_find_139 : decode cX8_find 139 = .ok (.ifCond .le 19, 3) := by decide +kernel
theorem dX8_find_142 : decode cX8_find 142 = .ok (.aload_n 0, 1) := by decide +kernel
theorem dX8_find_143 : decode cX8_find 143 = .ok (.aload_n 0, 1) := by decide +kernel
theorem dX8_find_144 : decode cX8_find 144 = .ok (.iload 8, 2) := by decide +kernel
theorem dX8_find_146 : decode cX8_find 146 = .ok (.invokevirtual 136, 3) := by decide +kernel
theorem dX8_find_149 : decode cX8_find 149 = .ok (.putfield 119, 3) := by decide +kernel
theorem dX8_find_152 : decode cX8_find 152 = .ok (.aload_n 0, 1) := by decide +kernel
theorem dX8_find_153 : decode cX8_find 153 = .ok (.iload 8, 2) := by decide +kernel
theorem dX8_find_155 : decode cX8_find 155 = .ok (.putfield 133, 3) := by decide +kernel
theorem dX8_find_158 : decode cX8_find 158 = .ok (.iinc 8 1, 3) := by decide +kernel
theorem dX8_find_161 : decode cX8_find 161 = .ok (.goto (-40), 3) := by decide +kernel
theorem dX8_find_164 : decode cX8_find 164 = .ok (.return_, 1) := by decide +kernel
theorem dX8_setStrain_0 : decode cX8_setStrain 0 = .ok (.aload_n 0, 1) := by decide +kernel
theorem dX8_setStrain_1 : decode cX8_setStrain 1 = .ok (.iload_n 1, 1) := by decide +kernel
theorem dX8_setStrain_2 : decode cX8_setStrain 2 = .ok (.invokevirtual 140, 3) := by decide +kernel
theorem dX8_setStrain_5 : decode cX8_setStrain 5 = .ok (.ifCond .eq 6, 3) := by decide +kernel
theorem dX8_setStrain_8 : decode cX8_setStrain 8 = .ok (.ldc 144, 2) := by decide +kernel
theorem dX8_setStrain_10 : decode cX8_setStrain 10 = .ok (.ireturn, 1) := by decide +kernel
theorem dX8_setStrain_11 : decode cX8_setStrain 11 = .ok (.iload_n 2, 1) := by decide +kernel
theorem dX8_setStrain_12 : decode cX8_setStrain 12 = .ok (.sipush (-5000), 3) := by decide +kernel
theorem dX8_setStrain_15 : decode cX8_setStrain 15 = .ok (.sipush 5000, 3) := by decide +kernel
theorem dX8_setStrain_18 : decode cX8_setStrain 18 = .ok (.invokestatic 37, 3) := by decide +kernel
theorem dX8_setStrain_21 : decode cX8_setStrain 21 = .ok (.ifCond .eq 30, 3) := by decide +kernel
theorem dX8_setStrain_24 : decode cX8_setStrain 24 = .ok (.iload_n 3, 1) := by decide +kernel
theorem dX8_setStrain_25 : decode cX8_setStrain 25 = .ok (.sipush (-5000), 3) := by decide +kernel
theorem dX8_setStrain_28 : decode cX8_setStrain 28 = .ok (.sipush 5000, 3) := by decide +kernel
theorem dX8_setStrain_31 : decode cX8_setStrain 31 = .ok (.invokestatic 37, 3) := by decide +kernel
theorem dX8_setStrain_34 : decode cX8_setStrain 34 = .ok (.ifCond .eq 17, 3) := by decide +kernel
theorem dX8_setStrain_37 : decode cX8_setStrain 37 = .ok (.iload 4, 2) := by decide +kernel
theorem dX8_setStrain_39 : decode cX8_setStrain 39 = .ok (.sipush (-5000), 3) := by decide +kernel
theorem dX8_setStrain_42 : decode cX8_setStrain 42 = .ok (.sipush 5000, 3) := by decide +kernel
theorem dX8_setStrain_45 : decode cX8_setStrain 45 = .ok (.invokestatic 37, 3) := by decide +kernel
theorem dX8_setStrain_48 : decode cX8_setStrain 48 = .ok (.ifCond .ne 6, 3) := by decide +kernel
theorem dX8_setStrain_51 : decode cX8_setStrain 51 = .ok (.ldc 50, 2) := by decide +kernel
theorem dX8_setStrain_53 : decode cX8_setStrain 53 = .ok (.ireturn, 1) := by decide +kernel
theorem dX8_setStrain_54 : decode cX8_setStrain 54 = .ok (.aload_n 0, 1) := by decide +kernel
theorem dX8_setStrain_55 : decode cX8_setStrain 55 = .ok (.iload_n 1, 1) := by decide +kernel
theorem dX8_setStrain_56 : decode cX8_setStrain 56 = .ok (.iconst 5, 1) := by decide +kernel
theorem dX8_setStrain_57 : decode cX8_setStrain 57 = .ok (.invokevirtual 41, 3) := by decide +kernel
theorem dX8_setStrain_60 : decode cX8_setStrain 60 = .ok (.iload_n 2, 1) := by decide +kernel
theorem dX8_setStrain_61 : decode cX8_setStrain 61 = .ok (.if_icmp .ne 29, 3) := by decide +kernel
theorem dX8_setStrain_64 : decode cX8_setStrain 64 = .ok (.aload_n 0, 1) := by decide +kernel
theorem dX8_setStrain_65 : decode cX8_setStrain 65 = .ok (.iload_n 1, 1) := by decide +kernel
theorem dX8_setStrain_66 : decode cX8_setStrain 66 = .ok (.bipush 6, 2) := by decide +kernel
theorem dX8_setStrain_68 : decode cX8_setStrain 68 = .ok (.invokevirtual 41, 3) := by decide +kernel
theorem dX8_setStrain_71 : decode cX8_setStrain 71 = .ok (.iload_n 3, 1) := by decide +kernel
theorem dX8_setStrain_72 : decode cX8_setStrain 72 = .ok (.if_icmp .ne 18, 3) := by decide +kernel
theorem dX8_setStrain_75 : decode cX8_setStrain 75 = .ok (.aload_n 0, 1) := by decide +kernel
theorem dX8_setStrain_76 : decode cX8_setStrain 76 = .ok (.iload_n 1, 1) := by decide +kernel
theorem dX8_setStrain_77 : decode cX8_setStrain 77 = .ok (.bipush 7, 2) := by decide +kernel
theorem dX8_setStrain_79 : decode cX8_setStrain 79 = .ok (.invokevirtual 41, 3) := by decide +kernel
theorem dX8_setStrain_82 : decode cX8_setStrain 82 = .ok (.iload 4, 2) := by decide +kernel
theorem dX8_setStrain_84 : decode cX8_setStrain 84 = .ok (.if_icmp .ne 6, 3) := by decide +kernel
theorem dX8_setStrain_87 : decode cX8_setStrain 87 = .ok (.ldc 49, 2) := by decide +kernel
theorem dX8_setStrain_89 : decode cX8_setStrain 89 = .ok (.ireturn, 1) := by decide +kernel
theorem dX8_setStrain_90 : decode cX8_setStrain 90 = .ok (.aload_n 0, 1) := by decide +kernel
theorem dX8_setStrain_91 : decode cX8_setStrain 91 = .ok (.invokevirtual 58, 3) := by decide +kernel
theorem dX8_setStrain_94 : decode cX8_setStrain 94 = .ok (.iconst 0, 1) := by decide +kernel
theorem dX8_setStrain_95 : decode cX8_setStrain 95 = .ok (.istore 5, 2) := by decide +kernel
theorem dX8_setStrain_97 : decode cX8_setStrain 97 = .ok (.iload 5, 2) := by decide +kernel
theorem dX8_setStrain_99 : decode cX8_setStrain 99 = .ok (.iconst 3, 1) := by decide +kernel
theorem dX8_setStrain_100 : decode cX8_setStrain 100 = .ok (.if_icmp .ge 23, 3) := by decide +kernel
theorem dX8_setStrain_103 : decode cX8_setStrain 103 = .ok (.aload_n 0, 1) := by decide +kernel
theorem dX8_setStrain_104 : decode cX8_setStrain 104 = .ok (.getfield 19, 3) := by decide +kernel
theorem dX8_setStrain_107 : decode cX8_setStrain 107 = .ok (.iload 5, 2) := by decide +kernel
theorem dX8_setStrain_109 : decode cX8_setStrain 109 = .ok (.aload_n 0, 1) := by decide +kernel
theorem dX8_setStrain_110 : decode cX8_setStrain 110 = .ok (.iload_n 1, 1) := by decide +kernel
theorem dX8_setStrain_111 : decode cX8_setStrain 111 = .ok (.iload 5, 2) := by decide +kernel
theorem dX8_setStrain_113 : decode cX8_setStrain 113 = .ok (.invokevirtual 90, 3) := by decide +kernel
theorem dX8_setStrain_116 : decode cX8_setStrain 116 = .ok (.iastore, 1) := by decide +kernel
theorem dX8_setStrain_117 : decode cX8_setStrain 117 = .ok (.iinc 5 1, 3) := by decide +kernel
theorem dX8_setStrain_120 : decode cX8_setStrain 120 = .ok (.goto (-23), 3) := by decide +kernel
theorem dX8_setStrain_123 : decode cX8_setStrain 123 = .ok (.aload_n 0, 1) := by decide +kernel
theorem dX8_setStrain_124 : decode cX8_setStrain 124 = .ok (.iload_n 1, 1) := by decide +kernel
theorem dX8_setStrain_125 : decode cX8_setStrain 125 = .ok (.iconst 5, 1) := by decide +kernel
theorem dX8_setStrain_126 : decode cX8_setStrain 126 = .ok (.iload_n 2, 1) := by decide +kernel
theorem dX8_setStrain_127 : decode cX8_setStrain 127 = .ok (.invokevirtual 45, 3) := by decide +kernel
theorem dX8_setStrain_130 : decode cX8_setStrain 130 = .ok (.aload_n 0, 1) := by decide +kernel
theorem dX8_setStrain_131 : decode cX8_setStrain 131 = .ok (.iload_n 1, 1) := by decide +kernel
theorem dX8_setStrain_132 : decode cX8_setStrain 132 = .ok (.bipush 6, 2) := by decide +kernel
theorem dX8_setStrain_134 : decode cX8_setStrain 134 = .ok (.iload_n 3, 1) := by decide +kernel
theorem dX8_setStrain_135 : decode cX8_setStrain 135 = .ok (.invokevirtual 45, 3) := by decide +kernel
theorem dX8_setStrain_138 : decode cX8_setStrain 138 = .ok (.aload_n 0, 1) := by decide +kernel
theorem dX8_setStrain_139 : decode cX8_setStrain 139 = .ok (.iload_n 1, 1) := by decide +kernel
theorem dX8_setStrain_140 : decode cX8_setStrain 140 = .ok (.bipush 7, 2) := by decide +kernel
theorem dX8_setStrain_142 : decode cX8_setStrain 142 = .ok (.iload 4, 2) := by decide +kernel
theorem dX8_setStrain_144 : decode cX8_setStrain 144 = .ok (.invokevirtual 45, 3) := by decide +kernel
theorem dX8_setStrain_147 : decode cX8_setStrain 147 = .ok (.iconst 0, 1) := by decide +kernel
theorem dX8_setStrain_148 : decode cX8_setStrain 148 = .ok (.istore 5, 2) := by decide +kernel
theorem dX8_setStrain_150 : decode cX8_setStrain 150 = .ok (.iconst 0, 1) := by decide +kernel
theorem dX8_setStrain_151 : decode cX8_setStrain 151 = .ok (.istore 6, 2) := by decide +kernel
theorem dX8_setStrain_153 : decode cX8_setStrain 153 = .ok (.iload 6, 2) := by decide +kernel
theorem dX8_setStrain_155 : decode cX8_setStrain 155 = .ok (.iconst 3, 1) := by decide +kernel
theorem dX8_setStrain_156 : decode cX8_setStrain 156 = .ok (.if_icmp .ge 36, 3) := by decide +kernel
theorem dX8_setStrain_159 : decode cX8_setStrain 159 = .ok (.iload 5, 2) := by decide +kernel
theorem dX8_setStrain_161 : decode cX8_setStrain 161 = .ok (.aload_n 0, 1) := by decide +kernel
theorem dX8_setStrain_162 : decode cX8_setStrain 162 = .ok (.getfield 19, 3) := by decide +kernel
theorem dX8_setStrain_165 : decode cX8_setStrain 165 = .ok (.iload 6, 2) := by decide +kernel
theorem dX8_setStrain_167 : decode cX8_setStrain 167 = .ok (.iaload, 1) := by decide +kernel
theorem dX8_setStrain_168 : decode cX8_setStrain 168 = .ok (.aload_n 0, 1) := by decide +kernel
theorem dX8_setStrain_169 : decode cX8_setStrain 169 = .ok (.iload_n 1, 1) := by decide +kernel
theorem dX8_setStrain_170 : decode cX8_setStrain 170 = .ok (.iload 6, 2) := by decide +kernel
theorem dX8_setStrain_172 : decode cX8_setStrain 172 = .ok (.invokevirtual 90, 3) := by decide +kernel
theorem dX8_setStrain_175 : decode cX8_setStrain 175 = .ok (.if_icmp .eq 7, 3) := by decide +kernel
theorem dX8_setStrain_178 : decode cX8_setStrain 178 = .ok (.iconst 1, 1) := by decide +kernel
theorem dX8_setStrain_179 : decode cX8_setStrain 179 = .ok (.goto 4, 3) := by decide +kernel
theorem dX8_setStrain_182 : decode cX8_setStrain 182 = .ok (.iconst 0, 1) := by decide +kernel
theorem dX8_setStrain_183 : decode cX8_setStrain 183 = .ok (.iadd, 1) := by decide +kernel
theorem dX8_setStrain_184 : decode cX8_setStrain 184 = .ok (.istore 5, 2) := by decide +kernel
theorem dX8_setStrain_186 : decode cX8_setStrain 186 = .ok (.iinc 6 1, 3) := by decide +kernel
theorem dX8_setStrain_189 : decode cX8_setStrain 189 = .ok (.goto (-36), 3) := by decide +kernel
theorem dX8_setStrain_192 : decode cX8_setStrain 192 = .ok (.iload 5, 2) := by decide +kernel
theorem dX8_setStrain_194 : decode cX8_setStrain 194 = .ok (.ireturn, 1) := by decide +kernel
theorem dX8_setLeads_0 : decode cX8_setLeads 0 = .ok (.aload_n 0, 1) := by decide +kernel
theorem dX8_setLeads_1 : decode cX8_setLeads 1 = .ok (.iload_n 1, 1) := by decide +kernel
theorem dX8_setLeads_2 : decode cX8_setLeads 2 = .ok (.invokevirtual 140, 3) := by decide +kernel
theorem dX8_setLeads_5 : decode cX8_setLeads 5 = .ok (.ifCond .eq 6, 3) := by decide +kernel
theorem dX8_setLeads_8 : decode cX8_setLeads 8 = .ok (.ldc 144, 2) := by decide +kernel
theorem dX8_setLeads_10 : decode cX8_setLeads 10 = .ok (.ireturn, 1) := by decide +kernel
theorem dX8_setLeads_11 : decode cX8_setLeads 11 = .ok (.iload_n 2, 1) := by decide +kernel
theorem dX8_setLeads_12 : decode cX8_setLeads 12 = .ok (.iconst 0, 1) := by decide +kernel
theorem dX8_setLeads_13 : decode cX8_setLeads 13 = .ok (.sipush 20000, 3) := by decide +kernel
theorem dX8_setLeads_16 : decode cX8_setLeads 16 = .ok (.invokestatic 37, 3) := by decide +kernel
theorem dX8_setLeads_19 : decode cX8_setLeads 19 = .ok (.ifCond .ne 6, 3) := by decide +kernel
theorem dX8_setLeads_22 : decode cX8_setLeads 22 = .ok (.ldc 50, 2) := by decide +kernel
theorem dX8_setLeads_24 : decode cX8_setLeads 24 = .ok (.ireturn, 1) := by decide +kernel
theorem dX8_setLeads_25 : decode cX8_setLeads 25 = .ok (.aload_n 0, 1) := by decide +kernel
theorem dX8_setLeads_26 : decode cX8_setLeads 26 = .ok (.iload_n 1, 1) := by decide +kernel
theorem dX8_setLeads_27 : decode cX8_setLeads 27 = .ok (.iconst 4, 1) := by decide +kernel
theorem dX8_setLeads_28 : decode cX8_setLeads 28 = .ok (.invokevirtual 41, 3) := by decide +kernel
theorem dX8_setLeads_31 : decode cX8_setLeads 31 = .ok (.istore_n 3, 1) := by decide +kernel
theorem dX8_setLeads_32 : decode cX8_setLeads 32 = .ok (.iload_n 3, 1) := by decide +kernel
theorem dX8_setLeads_33 : decode cX8_setLeads 33 = .ok (.iload_n 2, 1) := by decide +kernel
theorem dX8_setLeads_34 : decode cX8_setLeads 34 = .ok (.if_icmp .ne 6, 3) := by decide +kernel
theorem dX8_setLeads_37 : decode cX8_setLeads 37 = .ok (.ldc 49, 2) := by decide +kernel
theorem dX8_setLeads_39 : decode cX8_setLeads 39 = .ok (.ireturn, 1) := by decide +kernel
theorem dX8_setLeads_40 : decode cX8_setLeads 40 = .ok (.aload_n 0, 1) := by decide +kernel
theorem dX8_setLeads_41 : decode cX8_setLeads 41 = .ok (.invokevirtual 58, 3) := by decide +kernel
theorem dX8_setLeads_44 : decode cX8_setLeads 44 = .ok (.aload_n 0, 1) := by decide +kernel
theorem dX8_setLeads_45 : decode cX8_setLeads 45 = .ok (.iload_n 1, 1) := by decide +kernel
theorem dX8_setLeads_46 : decode cX8_setLeads 46 = .ok (.iconst 4, 1) := by decide +kernel
theorem dX8_setLeads_47 : decode cX8_setLeads 47 = .ok (.iload_n 2, 1) := by decide +kernel
theorem dX8_setLeads_48 : decode cX8_setLeads 48 = .ok (.invokevirtual 45, 3) := by decide +kernel
theorem dX8_setLeads_51 : decode cX8_setLeads 51 = .ok (.iload_n 3, 1) := by decide +kernel
theorem dX8_setLeads_52 : decode cX8_setLeads 52 = .ok (.ireturn, 1) := by decide +kernel
theorem dX8_setOffset_0 : decode cX8_setOffset 0 = .ok (.aload_n 0, 1) := by decide +kernel
theorem dX8_setOffset_1 : decode cX8_setOffset 1 = .ok (.iload_n 1, 1) := by decide +kernel
theorem dX8_setOffset_2 : decode cX8_setOffset 2 = .ok (.invokevirtual 140, 3) := by decide +kernel
theorem dX8_setOffset_5 : decode cX8_setOffset 5 = .ok (.ifCond .ne 12, 3) := by decide +kernel
theorem dX8_setOffset_8 : decode cX8_setOffset 8 = .ok (.iload_n 2, 1) := by decide +kernel
theorem dX8_setOffset_9 : decode cX8_setOffset 9 = .ok (.iconst 0, 1) := by decide +kernel
theorem dX8_setOffset_10 : decode cX8_setOffset 10 = .ok (.iconst 2, 1) := by decide +kernel
theorem dX8_setOffset_11 : decode cX8_setOffset 11 = .ok (.invokestatic 37, 3) := by decide +kernel
theorem dX8_setOffset_14 : decode cX8_setOffset 14 = .ok (.ifCond .ne 6, 3) := by decide +kernel
theorem dX8_setOffset_17 : decode cX8_setOffset 17 = .ok (.ldc 144, 2) := by decide +kernel
theorem dX8_setOffset_19 : decode cX8_setOffset 19 = .ok (.ireturn, 1) := by decide +kernel
theorem dX8_setOffset_20 : decode cX8_setOffset 20 = .ok (.iload_n 3, 1) := by decide +kernel
theorem dX8_setOffset_21 : decode cX8_setOffset 21 = .ok (.sipush (-9999), 3) := by decide +kernel
theorem dX8_setOffset_24 : decode cX8_setOffset 24 = .ok (.sipush 9999, 3) := by decide +kernel
theorem dX8_setOffset_27 : decode cX8_setOffset 27 = .ok (.invokestatic 37, 3) := by decide +kernel
theorem dX8_setOffset_30 : decode cX8_setOffset 30 = .ok (.ifCond .ne 6, 3) := by decide +kernel
theorem dX8_setOffset_33 : decode cX8_setOffset 33 = .ok (.ldc 50, 2) := by decide +kernel
theorem dX8_setOffset_35 : decode cX8_setOffset 35 = .ok (.ireturn, 1) := by decide +kernel
theorem dX8_setOffset_36 : decode cX8_setOffset 36 = .ok (.aload_n 0, 1) := by decide +kernel
theorem dX8_setOffset_37 : decode cX8_setOffset 37 = .ok (.iload_n 1, 1) := by decide +kernel
theorem dX8_setOffset_38 : decode cX8_setOffset 38 = .ok (.iload_n 2, 1) := by decide +kernel
theorem dX8_setOffset_39 : decode cX8_setOffset 39 = .ok (.iconst 0, 1) := by decide +kernel
theorem dX8_setOffset_40 : decode cX8_setOffset 40 = .ok (.invokevirtual 68, 3) := by decide +kernel
theorem dX8_setOffset_43 : decode cX8_setOffset 43 = .ok (.istore 4, 2) := by decide +kernel
theorem dX8_setOffset_45 : decode cX8_setOffset 45 = .ok (.iload 4, 2) := by decide +kernel
theorem dX8_setOffset_47 : decode cX8_setOffset 47 = .ok (.iload_n 3, 1) := by decide +kernel
theorem dX8_setOffset_48 : decode cX8_setOffset 48 = .ok (.if_icmp .ne 6, 3) := by decide +kernel
theorem dX8_setOffset_51 : decode cX8_setOffset 51 = .ok (.ldc 49, 2) := by decide +kernel
theorem dX8_setOffset_53 : decode cX8_setOffset 53 = .ok (.ireturn, 1) := by decide +kernel
theorem dX8_setOffset_54 : decode cX8_setOffset 54 = .ok (.aload_n 0, 1) := by decide +kernel
theorem dX8_setOffset_55 : decode cX8_setOffset 55 = .ok (.invokevirtual 58, 3) := by decide +kernel
theorem dX8_setOffset_58 : decode cX8_setOffset 58 = .ok (.aload_n 0, 1) := by decide +kernel
theorem dX8_setOffset_59 : decode cX8_setOffset 59 = .ok (.iload_n 1, 1) := by decide +kernel
theorem dX8_setOffset_60 : decode cX8_setOffset 60 = .ok (.iload_n 2, 1) := by decide +kernel
theorem dX8_setOffset_61 : decode cX8_setOffset 61 = .ok (.iconst 0, 1) := by decide +kernel
theorem dX8_setOffset_62 : decode cX8_setOffset 62 = .ok (.iload_n 3, 1) := by decide +kernel
theorem dX8_setOffset_63 : decode cX8_setOffset 63 = .ok (.invokevirtual 61, 3) := by decide +kernel
theorem dX8_setOffset_66 : decode cX8_setOffset 66 = .ok (.iload 4, 2) := by decide +kernel
theorem dX8_setOffset_68 : decode cX8_setOffset 68 = .ok (.ireturn, 1) := by decide +kernel
theorem dX8_setShunt_0 : decode cX8_setShunt 0 = .ok (.aload_n 0, 1) := by decide +kernel
theorem dX8_setShunt_1 : decode cX8_setShunt 1 = .ok (.iload_n 1, 1) := by decide +kernel
theorem dX8_setShunt_2 : decode cX8_setShunt 2 = .ok (.invokevirtual 140, 3) := by decide +kernel
theorem dX8_setShunt_5 : decode cX8_setShunt 5 = .ok (.ifCond .eq 6, 3) := by decide +kernel
theorem dX8_setShunt_8 : decode cX8_setShunt 8 = .ok (.ldc 144, 2) := by decide +kernel
theorem dX8_setShunt_10 : decode cX8_setShunt 10 = .ok (.ireturn, 1) := by decide +kernel
theorem dX8_setShunt_11 : decode cX8_setShunt 11 = .ok (.aload_n 0, 1) := by decide +kernel
theorem dX8_setShunt_12 : decode cX8_setShunt 12 = .ok (.iload_n 1, 1) := by decide +kernel
theorem dX8_setShunt_13 : decode cX8_setShunt 13 = .ok (.bipush 8, 2) := by decide +kernel
theorem dX8_setShunt_15 : decode cX8_setShunt 15 = .ok (.invokevirtual 41, 3) := by decide +kernel
theorem dX8_setShunt_18 : decode cX8_setShunt 18 = .ok (.iload_n 2, 1) := by decide +kernel
theorem dX8_setShunt_19 : decode cX8_setShunt 19 = .ok (.ifCond .eq 7, 3) := by decide +kernel
theorem dX8_setShunt_22 : decode cX8_setShunt 22 = .ok (.iconst 1, 1) := by decide +kernel
theorem dX8_setShunt_23 : decode cX8_setShunt 23 = .ok (.goto 4, 3) := by decide +kernel
theorem dX8_setShunt_26 : decode cX8_setShunt 26 = .ok (.iconst 0, 1) := by decide +kernel
theorem dX8_setShunt_27 : decode cX8_setShunt 27 = .ok (.if_icmp .ne 6, 3) := by decide +kernel
theorem dX8_setShunt_30 : decode cX8_setShunt 30 = .ok (.ldc 49, 2) := by decide +kernel
theorem dX8_setShunt_32 : decode cX8_setShunt 32 = .ok (.ireturn, 1) := by decide +kernel
theorem dX8_setShunt_33 : decode cX8_setShunt 33 = .ok (.aload_n 0, 1) := by decide +kernel
theorem dX8_setShunt_34 : decode cX8_setShunt 34 = .ok (.invokevirtual 58, 3) := by decide +kernel
theorem dX8_setShunt_37 : decode cX8_setShunt 37 = .ok (.aload_n 0, 1) := by decide +kernel
theorem dX8_setShunt_38 : decode cX8_setShunt 38 = .ok (.iload_n 1, 1) := by decide +kernel
theorem dX8_setShunt_39 : decode cX8_setShunt 39 = .ok (.bipush 8, 2) := by decide +kernel
theorem dX8_setShunt_41 : decode cX8_setShunt 41 = .ok (.iload_n 2, 1) := by decide +kernel
theorem dX8_setShunt_42 : decode cX8_setShunt 42 = .ok (.ifCond .eq 7, 3) := by decide +kernel
theorem dX8_setShunt_45 : decode cX8_setShunt 45 = .ok (.iconst 1, 1) := by decide +kernel
theorem dX8_setShunt_46 : decode cX8_setShunt 46 = .ok (.goto 4, 3) := by decide +kernel
theorem dX8_setShunt_49 : decode cX8_setShunt 49 = .ok (.iconst 0, 1) := by decide +kernel
theorem dX8_setShunt_50 : decode cX8_setShunt 50 = .ok (.invokevirtual 45, 3) := by decide +kernel
theorem dX8_setShunt_53 : decode cX8_setShunt 53 = .ok (.aload_n 0, 1) := by decide +kernel
theorem dX8_setShunt_54 : decode cX8_setShunt 54 = .ok (.iload_n 1, 1) := by decide +kernel
theorem dX8_setShunt_55 : decode cX8_setShunt 55 = .ok (.iconst 0, 1) := by decide +kernel
theorem dX8_setShunt_56 : decode cX8_setShunt 56 = .ok (.invokevirtual 90, 3) := by decide +kernel
theorem dX8_setShunt_59 : decode cX8_setShunt 59 = .ok (.ireturn, 1) := by decide +kernel
theorem dX8_setSize_0 : decode cX8_setSize 0 = .ok (.iload_n 1, 1) := by decide +kernel
theorem dX8_setSize_1 : decode cX8_setSize 1 = .ok (.bipush 20, 2) := by decide +kernel
theorem dX8_setSize_3 : decode cX8_setSize 3 = .ok (.sipush 500, 3) := by decide +kernel
theorem dX8_setSize_6 : decode cX8_setSize 6 = .ok (.invokestatic 37, 3) := by decide +kernel
theorem dX8_setSize_9 : decode cX8_setSize 9 = .ok (.ifCond .ne 6, 3) := by decide +kernel
theorem dX8_setSize_12 : decode cX8_setSize 12 = .ok (.ldc 50, 2) := by decide +kernel
theorem dX8_setSize_14 : decode cX8_setSize 14 = .ok (.ireturn, 1) := by decide +kernel
theorem dX8_setSize_15 : decode cX8_setSize 15 = .ok (.aload_n 0, 1) := by decide +kernel
theorem dX8_setSize_16 : decode cX8_setSize 16 = .ok (.getfield 7, 3) := by decide +kernel
theorem dX8_setSize_19 : decode cX8_setSize 19 = .ok (.iconst 3, 1) := by decide +kernel
theorem dX8_setSize_20 : decode cX8_setSize 20 = .ok (.iaload, 1) := by decide +kernel
theorem dX8_setSize_21 : decode cX8_setSize 21 = .ok (.istore_n 2, 1) := by decide +kernel
theorem dX8_setSize_22 : decode cX8_setSize 22 = .ok (.iload_n 2, 1) := by decide +kernel
theorem dX8_setSize_23 : decode cX8_setSize 23 = .ok (.iload_n 1, 1) := by decide +kernel
theorem dX8_setSize_24 : decode cX8_setSize 24 = .ok (.if_icmp .ne 6, 3) := by decide +kernel
theorem dX8_setSize_27 : decode cX8_setSize 27 = .ok (.ldc 49, 2) := by decide +kernel
theorem dX8_setSize_29 : decode cX8_setSize 29 = .ok (.ireturn, 1) := by decide +kernel
theorem dX8_setSize_30 : decode cX8_setSize 30 = .ok (.aload_n 0, 1) := by decide +kernel
theorem dX8_setSize_31 : decode cX8_setSize 31 = .ok (.invokevirtual 58, 3) := by decide +kernel
theorem dX8_setSize_34 : decode cX8_setSize 34 = .ok (.aload_n 0, 1) := by decide +kernel
theorem dX8_setSize_35 : decode cX8_setSize 35 = .ok (.getfield 7, 3) := by decide +kernel
theorem dX8_setSize_38 : decode cX8_setSize 38 = .ok (.iconst 3, 1) := by decide +kernel
theorem dX8_setSize_39 : decode cX8_setSize 39 = .ok (.iload_n 1, 1) := by decide +kernel
theorem dX8_setSize_40 : decode cX8_setSize 40 = .ok (.iastore, 1) := by decide +kernel
theorem dX8_setSize_41 : decode cX8_setSize 41 = .ok (.iload_n 2, 1) := by decide +kernel
theorem dX8_setSize_42 : decode cX8_setSize 42 = .ok (.ireturn, 1) := by decide +kernel
theorem dX8_ofJob_0 : decode cX8_ofJob 0 = .ok (.aload_n 0, 1) := by decide +kernel
theorem dX8_ofJob_1 : decode cX8_ofJob 1 = .ok (.getfield 7, 3) := by decide +kernel
theorem dX8_ofJob_4 : decode cX8_ofJob 4 = .ok (.sipush 170, 3) := by decide +kernel
theorem dX8_ofJob_7 : decode cX8_ofJob 7 = .ok (.iconst 4, 1) := by decide +kernel
theorem dX8_ofJob_8 : decode cX8_ofJob 8 = .ok (.iload_n 1, 1) := by decide +kernel
theorem dX8_ofJob_9 : decode cX8_ofJob 9 = .ok (.imul, 1) := by decide +kernel
theorem dX8_ofJob_10 : decode cX8_ofJob 10 = .ok (.iadd, 1) := by decide +kernel
theorem dX8_ofJob_11 : decode cX8_ofJob 11 = .ok (.iload_n 2, 1) := by decide +kernel
theorem dX8_ofJob_12 : decode cX8_ofJob 12 = .ok (.iadd, 1) := by decide +kernel
theorem dX8_ofJob_13 : decode cX8_ofJob 13 = .ok (.iaload, 1) := by decide +kernel
theorem dX8_ofJob_14 : decode cX8_ofJob 14 = .ok (.ireturn, 1) := by decide +kernel
theorem dX8_ask_0 : decode cX8_ask 0 = .ok (.sipush 170, 3) := by decide +kernel
theorem dX8_ask_3 : decode cX8_ask 3 = .ok (.iconst 4, 1) := by decide +kernel
theorem dX8_ask_4 : decode cX8_ask 4 = .ok (.aload_n 0, 1) := by decide +kernel
theorem dX8_ask_5 : decode cX8_ask 5 = .ok (.getfield 7, 3) := by decide +kernel
theorem dX8_ask_8 : decode cX8_ask 8 = .ok (.iconst 4, 1) := by decide +kernel
theorem dX8_ask_9 : decode cX8_ask 9 = .ok (.iaload, 1) := by decide +kernel
theorem dX8_ask_10 : decode cX8_ask 10 = .ok (.imul, 1) := by decide +kernel
theorem dX8_ask_11 : decode cX8_ask 11 = .ok (.iadd, 1) := by decide +kernel
theorem dX8_ask_12 : decode cX8_ask 12 = .ok (.istore 4, 2) := by decide +kernel
theorem dX8_ask_14 : decode cX8_ask 14 = .ok (.aload_n 0, 1) := by decide +kernel
theorem dX8_ask_15 : decode cX8_ask 15 = .ok (.getfield 7, 3) := by decide +kernel
theorem dX8_ask_18 : decode cX8_ask 18 = .ok (.iload 4, 2) := by decide +kernel
theorem dX8_ask_20 : decode cX8_ask 20 = .ok (.aload_n 0, 1) := by decide +kernel
theorem dX8_ask_21 : decode cX8_ask 21 = .ok (.getfield 7, 3) := by decide +kernel
theorem dX8_ask_24 : decode cX8_ask 24 = .ok (.iconst 5, 1) := by decide +kernel
theorem dX8_ask_25 : decode cX8_ask 25 = .ok (.iaload, 1) := by decide +kernel
theorem dX8_ask_26 : decode cX8_ask 26 = .ok (.iastore, 1) := by decide +kernel
theorem dX8_ask_27 : decode cX8_ask 27 = .ok (.aload_n 0, 1) := by decide +kernel
theorem dX8_ask_28 : decode cX8_ask 28 = .ok (.getfield 7, 3) := by decide +kernel
theorem dX8_ask_31 : decode cX8_ask 31 = .ok (.iload 4, 2) := by decide +kernel
theorem dX8_ask_33 : decode cX8_ask 33 = .ok (.iconst 1, 1) := by decide +kernel
theorem dX8_ask_34 : decode cX8_ask 34 = .ok (.iadd, 1) := by decide +kernel
theorem dX8_ask_35 : decode cX8_ask 35 = .ok (.iload_n 1, 1) := by decide +kernel
theorem dX8_ask_36 : decode cX8_ask 36 = .ok (.iastore, 1) := by decide +kernel
theorem dX8_ask_37 : decode cX8_ask 37 = .ok (.aload_n 0, 1) := by decide +kernel
theorem dX8_ask_38 : decode cX8_ask 38 = .ok (.getfield 7, 3) := by decide +kernel
theorem dX8_ask_41 : decode cX8_ask 41 = .ok (.iload 4, 2) := by decide +kernel
theorem dX8_ask_43 : decode cX8_ask 43 = .ok (.iconst 2, 1) := by decide +kernel
theorem dX8_ask_44 : decode cX8_ask 44 = .ok (.iadd, 1) := by decide +kernel
theorem dX8_ask_45 : decode cX8_ask 45 = .ok (.iload_n 2, 1) := by decide +kernel
theorem dX8_ask_46 : decode cX8_ask 46 = .ok (.iastore, 1) := by decide +kernel
theorem dX8_ask_47 : decode cX8_ask 47 = .ok (.aload_n 0, 1) := by decide +kernel
theorem dX8_ask_48 : decode cX8_ask 48 = .ok (.getfield 7, 3) := by decide +kernel
theorem dX8_ask_51 : decode cX8_ask 51 = .ok (.iload 4, 2) := by decide +kernel
theorem dX8_ask_53 : decode cX8_ask 53 = .ok (.iconst 3, 1) := by decide +kernel
theorem dX8_ask_54 : decode cX8_ask 54 = .ok (.iadd, 1) := by decide +kernel
theorem dX8_ask_55 : decode cX8_ask 55 = .ok (.iload_n 3, 1) := by decide +kernel
theorem dX8_ask_56 : decode cX8_ask 56 = .ok (.iastore, 1) := by decide +kernel
theorem dX8_ask_57 : decode cX8_ask 57 = .ok (.aload_n 0, 1) := by decide +kernel
theorem dX8_ask_58 : decode cX8_ask 58 = .ok (.getfield 7, 3) := by decide +kernel
theorem dX8_ask_61 : decode cX8_ask 61 = .ok (.iconst 4, 1) := by decide +kernel
theorem dX8_ask_62 : decode cX8_ask 62 = .ok (.dup2, 1) := by decide +kernel
theorem dX8_ask_63 : decode cX8_ask 63 = .ok (.iaload, 1) := by decide +kernel
theorem dX8_ask_64 : decode cX8_ask 64 = .ok (.iconst 1, 1) := by decide +kernel
theorem dX8_ask_65 : decode cX8_ask 65 = .ok (.iadd, 1) := by decide +kernel
theorem dX8_ask_66 : decode cX8_ask 66 = .ok (.iastore, 1) := by decide +kernel
theorem dX8_ask_67 : decode cX8_ask 67 = .ok (.aload_n 0, 1) := by decide +kernel
theorem dX8_ask_68 : decode cX8_ask 68 = .ok (.getfield 7, 3) := by decide +kernel
theorem dX8_ask_71 : decode cX8_ask 71 = .ok (.iconst 5, 1) := by decide +kernel
theorem dX8_ask_72 : decode cX8_ask 72 = .ok (.dup2, 1) := by decide +kernel
theorem dX8_ask_73 : decode cX8_ask 73 = .ok (.iaload, 1) := by decide +kernel
theorem dX8_ask_74 : decode cX8_ask 74 = .ok (.iconst 1, 1) := by decide +kernel
theorem dX8_ask_75 : decode cX8_ask 75 = .ok (.iadd, 1) := by decide +kernel
theorem dX8_ask_76 : decode cX8_ask 76 = .ok (.iastore, 1) := by decide +kernel
theorem dX8_ask_77 : decode cX8_ask 77 = .ok (.return_, 1) := by decide +kernel
theorem dX8_takeOut_0 : decode cX8_takeOut 0 = .ok (.aload_n 0, 1) := by decide +kernel
theorem dX8_takeOut_1 : decode cX8_takeOut 1 = .ok (.getfield 7, 3) := by decide +kernel
theorem dX8_takeOut_4 : decode cX8_takeOut 4 = .ok (.iconst 4, 1) := by decide +kernel
theorem dX8_takeOut_5 : decode cX8_takeOut 5 = .ok (.dup2, 1) := by decide +kernel
theorem dX8_takeOut_6 : decode cX8_takeOut 6 = .ok (.iaload, 1) := by decide +kernel
theorem dX8_takeOut_7 : decode cX8_takeOut 7 = .ok (.iconst 1, 1) := by decide +kernel
theorem dX8_takeOut_8 : decode cX8_takeOut 8 = .ok (.isub, 1) := by decide +kernel
theorem dX8_takeOut_9 : decode cX8_takeOut 9 = .ok (.iastore, 1) := by decide +kernel
theorem dX8_takeOut_10 : decode cX8_takeOut 10 = .ok (.sipush 170, 3) := by decide +kernel
theorem dX8_takeOut_13 : decode cX8_takeOut 13 = .ok (.iconst 4, 1) := by decide +kernel
theorem dX8_takeOut_14 : decode cX8_takeOut 14 = .ok (.iload_n 1, 1) := by decide +kernel
theorem dX8_takeOut_15 : decode cX8_takeOut 15 = .ok (.imul, 1) := by decide +kernel
theorem dX8_takeOut_16 : decode cX8_takeOut 16 = .ok (.iadd, 1) := by decide +kernel
theorem dX8_takeOut_17 : decode cX8_takeOut 17 = .ok (.istore_n 2, 1) := by decide +kernel
theorem dX8_takeOut_18 : decode cX8_takeOut 18 = .ok (.iload_n 2, 1) := by decide +kernel
theorem dX8_takeOut_19 : decode cX8_takeOut 19 = .ok (.sipush 170, 3) := by decide +kernel
theorem dX8_takeOut_22 : decode cX8_takeOut 22 = .ok (.iconst 4, 1) := by decide +kernel
theorem dX8_takeOut_23 : decode cX8_takeOut 23 = .ok (.aload_n 0, 1) := by decide +kernel
theorem dX8_takeOut_24 : decode cX8_takeOut 24 = .ok (.getfield 7, 3) := by decide +kernel
theorem dX8_takeOut_27 : decode cX8_takeOut 27 = .ok (.iconst 4, 1) := by decide +kernel
theorem dX8_takeOut_28 : decode cX8_takeOut 28 = .ok (.iaload, 1) := by decide +kernel
theorem dX8_takeOut_29 : decode cX8_takeOut 29 = .ok (.imul, 1) := by decide +kernel
theorem dX8_takeOut_30 : decode cX8_takeOut 30 = .ok (.iadd, 1) := by decide +kernel
theorem dX8_takeOut_31 : decode cX8_takeOut 31 = .ok (.if_icmp .ge 23, 3) := by decide +kernel
theorem dX8_takeOut_34 : decode cX8_takeOut 34 = .ok (.aload_n 0, 1) := by decide +kernel
theorem dX8_takeOut_35 : decode cX8_takeOut 35 = .ok (.getfield 7, 3) := by decide +kernel
theorem dX8_takeOut_38 : decode cX8_takeOut 38 = .ok (.iload_n 2, 1) := by decide +kernel
theorem dX8_takeOut_39 : decode cX8_takeOut 39 = .ok (.aload_n 0, 1) := by decide +kernel
theorem dX8_takeOut_40 : decode cX8_takeOut 40 = .ok (.getfield 7, 3) := by decide +kernel
theorem dX8_takeOut_43 : decode cX8_takeOut 43 = .ok (.iload_n 2, 1) := by decide +kernel
theorem dX8_takeOut_44 : decode cX8_takeOut 44 = .ok (.iconst 4, 1) := by decide +kernel
theorem dX8_takeOut_45 : decode cX8_takeOut 45 = .ok (.iadd, 1) := by decide +kernel
theorem dX8_takeOut_46 : decode cX8_takeOut 46 = .ok (.iaload, 1) := by decide +kernel
theorem dX8_takeOut_47 : decode cX8_takeOut 47 = .ok (.iastore, 1) := by decide +kernel
theorem dX8_takeOut_48 : decode cX8_takeOut 48 = .ok (.iinc 2 1, 3) := by decide +kernel
theorem dX8_takeOut_51 : decode cX8_takeOut 51 = .ok (.goto (-33), 3) := by decide +kernel
theorem dX8_takeOut_54 : decode cX8_takeOut 54 = .ok (.return_, 1) := by decide +kernel
theorem dX8_wayTo_0 : decode cX8_wayTo 0 = .ok (.aload_n 0, 1) := by decide +kernel
theorem dX8_wayTo_1 : decode cX8_wayTo 1 = .ok (.aload_n 0, 1) := by decide +kernel
theorem dX8_wayTo_2 : decode cX8_wayTo 2 = .ok (.iload_n 1, 1) := by decide +kernel
theorem dX8_wayTo_3 : decode cX8_wayTo 3 = .ok (.iconst 2, 1) := by decide +kernel
theorem dX8_wayTo_4 : decode cX8_wayTo 4 = .ok (.invokevirtual 145, 3) := by decide +kernel
theorem dX8_wayTo_7 : decode cX8_wayTo 7 = .ok (.iconst 0, 1) := by decide +kernel
theorem dX8_wayTo_8 : decode cX8_wayTo 8 = .ok (.invokevirtual 41, 3) := by decide +kernel
theorem dX8_wayTo_11 : decode cX8_wayTo 11 = .ok (.iload_n 2, 1) := by decide +kernel
theorem dX8_wayTo_12 : decode cX8_wayTo 12 = .ok (.isub, 1) := by decide +kernel
theorem dX8_wayTo_13 : decode cX8_wayTo 13 = .ok (.invokestatic 84, 3) := by decide +kernel
theorem dX8_wayTo_16 : decode cX8_wayTo 16 = .ok (.ireturn, 1) := by decide +kernel
theorem dX8_first_0 : decode cX8_first 0 = .ok (.ldc 49, 2) := by decide +kernel
theorem dX8_first_2 : decode cX8_first 2 = .ok (.istore_n 3, 1) := by decide +kernel
theorem dX8_first_3 : decode cX8_first 3 = .ok (.iconst 0, 1) := by decide +kernel
theorem dX8_first_4 : decode cX8_first 4 = .ok (.istore 4, 2) := by decide +kernel
theorem dX8_first_6 : decode cX8_first 6 = .ok (.iload 4, 2) := by decide +kernel
theorem dX8_first_8 : decode cX8_first 8 = .ok (.aload_n 0, 1) := by decide +kernel
theorem dX8_first_9 : decode cX8_first 9 = .ok (.getfield 7, 3) := by decide +kernel
theorem dX8_first_12 : decode cX8_first 12 = .ok (.iconst 4, 1) := by decide +kernel
theorem dX8_first_13 : decode cX8_first 13 = .ok (.iaload, 1) := by decide +kernel
theorem dX8_first_14 : decode cX8_first 14 = .ok (.if_icmp .ge 146, 3) := by decide +kernel
theorem dX8_first_17 : decode cX8_first 17 = .ok (.iload_n 1, 1) := by decide +kernel
theorem dX8_first_18 : decode cX8_first 18 = .ok (.iload 4, 2) := by decide +kernel
theorem dX8_first_20 : decode cX8_first 20 = .ok (.ishr, 1) := by decide +kernel
theorem dX8_first_21 : decode cX8_first 21 = .ok (.iconst 1, 1) := by decide +kernel
theorem dX8_first_22 : decode cX8_first 22 = .ok (.iand, 1) := by decide +kernel
theorem dX8_first_23 : decode cX8_first 23 = .ok (.iconst 1, 1) := by decide +kernel
theorem dX8_first_24 : decode cX8_first 24 = .ok (.if_icmp .ne 6, 3) := by decide +kernel
theorem dX8_first_27 : decode cX8_first 27 = .ok (.goto 127, 3) := by decide +kernel
theorem dX8_first_30 : decode cX8_first 30 = .ok (.iload_n 3, 1) := by decide +kernel
theorem dX8_first_31 : decode cX8_first 31 = .ok (.ldc 49, 2) := by decide +kernel
theorem dX8_first_33 : decode cX8_first 33 = .ok (.if_icmp .eq 19, 3) := by decide +kernel
theorem dX8_first_36 : decode cX8_first 36 = .ok (.aload_n 0, 1) := by decide +kernel
theorem dX8_first_37 : decode cX8_first 37 = .ok (.iload 4, 2) := by decide +kernel
theorem dX8_first_39 : decode cX8_first 39 = .ok (.iconst 3, 1) := by decide +kernel
theorem dX8_first_40 : decode cX8_first 40 = .ok (.invokevirtual 145, 3) := by decide +kernel
theorem dX8_first_43 : decode cX8_first 43 = .ok (.aload_n 0, 1) := by decide +kernel
theorem dX8_first_44 : decode cX8_first 44 = .ok (.iload_n 3, 1) := by decide +kernel
theorem dX8_first_45 : decode cX8_first 45 = .ok (.iconst 3, 1) := by decide +kernel
theorem dX8_first_46 : decode cX8_first 46 = .ok (.invokevirtual 145, 3) := by decide +kernel
theorem dX8_first_49 : decode cX8_first 49 = .ok (.if_icmp .le 7, 3) := by decide +kernel
theorem dX8_first_52 : decode cX8_first 52 = .ok (.iconst 1, 1) := by decide +kernel
theorem dX8_first_53 : decode cX8_first 53 = .ok (.goto 4, 3) := by decide +kernel
theorem dX8_first_56 : decode cX8_first 56 = .ok (.iconst 0, 1) := by decide +kernel
theorem dX8_first_57 : decode cX8_first 57 = .ok (.istore 5, 2) := by decide +kernel
theorem dX8_first_59 : decode cX8_first 59 = .ok (.iload 5, 2) := by decide +kernel
theorem dX8_first_61 : decode cX8_first 61 = .ok (.ifCond .ne 81, 3) := by decide +kernel
theorem dX8_first_64 : decode cX8_first 64 = .ok (.aload_n 0, 1) := by decide +kernel
theorem dX8_first_65 : decode cX8_first 65 = .ok (.iload 4, 2) := by decide +kernel
theorem dX8_first_67 : decode cX8_first 67 = .ok (.iconst 3, 1) := by decide +kernel
theorem dX8_first_68 : decode cX8_first 68 = .ok (.invokevirtual 145, 3) := by decide +kernel
theorem dX8_first_71 : decode cX8_first 71 = .ok (.aload_n 0, 1) := by decide +kernel
theorem dX8_first_72 : decode cX8_first 72 = .ok (.iload_n 3, 1) := by decide +kernel
theorem dX8_first_73 : decode cX8_first 73 = .ok (.iconst 3, 1) := by decide +kernel
theorem dX8_first_74 : decode cX8_first 74 = .ok (.invokevirtual 145, 3) := by decide +kernel
theorem dX8_first_77 : decode cX8_first 77 = .ok (.if_icmp .ne 65, 3) := by decide +kernel
theorem dX8_first_80 : decode cX8_first 80 = .ok (.aload_n 0, 1) := by decide +kernel
theorem dX8_first_81 : decode cX8_first 81 = .ok (.iload 4, 2) := by decide +kernel
theorem dX8_first_83 : decode cX8_first 83 = .ok (.iload_n 2, 1) := by decide +kernel
theorem dX8_first_84 : decode cX8_first 84 = .ok (.invokevirtual 148, 3) := by decide +kernel
theorem dX8_first_87 : decode cX8_first 87 = .ok (.istore 6, 2) := by decide +kernel
theorem dX8_first_89 : decode cX8_first 89 = .ok (.iload 6, 2) := by decide +kernel
theorem dX8_first_91 : decode cX8_first 91 = .ok (.aload_n 0, 1) := by decide +kernel
theorem dX8_first_92 : decode cX8_first 92 = .ok (.iload_n 3, 1) := by decide +kernel
theorem dX8_first_93 : decode cX8_first 93 = .ok (.iload_n 2, 1) := by decide +kernel
theorem dX8_first_94 : decode cX8_first 94 = .ok (.invokevirtual 148, 3) := by decide +kernel
theorem dX8_first_97 : decode cX8_first 97 = .ok (.if_icmp .eq 22, 3) := by decide +kernel
theorem dX8_first_100 : decode cX8_first 100 = .ok (.iload 6, 2) := by decide +kernel
theorem dX8_first_102 : decode cX8_first 102 = .ok (.aload_n 0, 1) := by decide +kernel
theorem dX8_first_103 : decode cX8_first 103 = .ok (.iload_n 3, 1) := by decide +kernel
theorem dX8_first_104 : decode cX8_first 104 = .ok (.iload_n 2, 1) := by decide +kernel
theorem dX8_first_105 : decode cX8_first 105 = .ok (.invokevirtual 148, 3) := by decide +kernel
theorem dX8_first_108 : decode cX8_first 108 = .ok (.if_icmp .ge 7, 3) := by decide +kernel
theorem dX8_first_111 : decode cX8_first 111 = .ok (.iconst 1, 1) := by decide +kernel
theorem dX8_first_112 : decode cX8_first 112 = .ok (.goto 28, 3) := by decide +kernel
theorem dX8_first_115 : decode cX8_first 115 = .ok (.iconst 0, 1) := by decide +kernel
theorem dX8_first_116 : decode cX8_first 116 = .ok (.goto 24, 3) := by decide +kernel
theorem dX8_first_119 : decode cX8_first 119 = .ok (.aload_n 0, 1) := by decide +kernel
theorem dX8_first_120 : decode cX8_first 120 = .ok (.iload 4, 2) := by decide +kernel
theorem dX8_first_122 : decode cX8_first 122 = .ok (.iconst 0, 1) := by decide +kernel
theorem dX8_first_123 : decode cX8_first 123 = .ok (.invokevirtual 145, 3) := by decide +kernel
theorem dX8_first_126 : decode cX8_first 126 = .ok (.aload_n 0, 1) := by decide +kernel
theorem dX8_first_127 : decode cX8_first 127 = .ok (.iload_n 3, 1) := by decide +kernel
theorem dX8_first_128 : decode cX8_first 128 = .ok (.iconst 0, 1) := by decide +kernel
theorem dX8_first_129 : decode cX8_first 129 = .ok (.invokevirtual 145, 3) := by decide +kernel
theorem dX8_first_132 : decode cX8_first 132 = .ok (.if_icmp .ge 7, 3) := by decide +kernel
theorem dX8_first_135 : decode cX8_first 135 = .ok (.iconst 1, 1) := by decide +kernel
theorem dX8_first_136 : decode cX8_first 136 = .ok (.goto 4, 3) := by decide +kernel
theorem dX8_first_139 : decode cX8_first 139 = .ok (.iconst 0, 1) := by decide +kernel
theorem dX8_first_140 : decode cX8_first 140 = .ok (.istore 5, 2) := by decide +kernel
theorem dX8_first_142 : decode cX8_first 142 = .ok (.iload 5, 2) := by decide +kernel
theorem dX8_first_144 : decode cX8_first 144 = .ok (.ifCond .eq 8, 3) := by decide +kernel
theorem dX8_first_147 : decode cX8_first 147 = .ok (.iload 4, 2) := by decide +kernel
theorem dX8_first_149 : decode cX8_first 149 = .ok (.goto 4, 3) := by decide +kernel
theorem dX8_first_152 : decode cX8_first 152 = .ok (.iload_n 3, 1) := by decide +kernel
theorem dX8_first_153 : decode cX8_first 153 = .ok (.istore_n 3, 1) := by decide +kernel
theorem dX8_first_154 : decode cX8_first 154 = .ok (.iinc 4 1, 3) := by decide +kernel
theorem dX8_first_157 : decode cX8_first 157 = .ok (.goto (-151), 3) := by decide +kernel
theorem dX8_first_160 : decode cX8_first 160 = .ok (.iload_n 3, 1) := by decide +kernel
theorem dX8_first_161 : decode cX8_first 161 = .ok (.ireturn, 1) := by decide +kernel
theorem dX8_request_0 : decode cX8_request 0 = .ok (.aload_n 0, 1) := by decide +kernel
theorem dX8_request_1 : decode cX8_request 1 = .ok (.iload_n 2, 1) := by decide +kernel
theorem dX8_request_2 : decode cX8_request 2 = .ok (.invokevirtual 140, 3) := by decide +kernel
theorem dX8_request_5 : decode cX8_request 5 = .ok (.ifCond .eq 6, 3) := by decide +kernel
theorem dX8_request_8 : decode cX8_request 8 = .ok (.ldc 144, 2) := by decide +kernel
theorem dX8_request_10 : decode cX8_request 10 = .ok (.ireturn, 1) := by decide +kernel
theorem dX8_request_11 : decode cX8_request 11 = .ok (.iload_n 1, 1) := by decide +kernel
theorem dX8_request_12 : decode cX8_request 12 = .ok (.iconst 0, 1) := by decide +kernel
theorem dX8_request_13 : decode cX8_request 13 = .ok (.iconst 2, 1) := by decide +kernel
theorem dX8_request_14 : decode cX8_request 14 = .ok (.invokestatic 37, 3) := by decide +kernel
theorem dX8_request_17 : decode cX8_request 17 = .ok (.ifCond .eq 13, 3) := by decide +kernel
theorem dX8_request_20 : decode cX8_request 20 = .ok (.iload_n 3, 1) := by decide +kernel
theorem dX8_request_21 : decode cX8_request 21 = .ok (.iconst 0, 1) := by decide +kernel
theorem dX8_request_22 : decode cX8_request 22 = .ok (.bipush 9, 2) := by decide +kernel
theorem dX8_request_24 : decode cX8_request 24 = .ok (.invokestatic 37, 3) := by decide +kernel
theorem dX8_request_27 : decode cX8_request 27 = .ok (.ifCond .ne 6, 3) := by decide +kernel
theorem dX8_request_30 : decode cX8_request 30 = .ok (.ldc 50, 2) := by decide +kernel
theorem dX8_request_32 : decode cX8_request 32 = .ok (.ireturn, 1) := by decide +kernel
theorem dX8_request_33 : decode cX8_request 33 = .ok (.aload_n 0, 1) := by decide +kernel
theorem dX8_request_34 : decode cX8_request 34 = .ok (.getfield 7, 3) := by decide +kernel
theorem dX8_request_37 : decode cX8_request 37 = .ok (.iconst 4, 1) := by decide +kernel
theorem dX8_request_38 : decode cX8_request 38 = .ok (.iaload, 1) := by decide +kernel
theorem dX8_request_39 : decode cX8_request 39 = .ok (.bipush 20, 2) := by decide +kernel
theorem dX8_request_41 : decode cX8_request 41 = .ok (.if_icmp .ne 9, 3) := by decide +kernel
theorem dX8_request_44 : decode cX8_request 44 = .ok (.aload_n 0, 1) := by decide +kernel
theorem dX8_request_45 : decode cX8_request 45 = .ok (.iconst 1, 1) := by decide +kernel
theorem dX8_request_46 : decode cX8_request 46 = .ok (.invokevirtual 51, 3) := by decide +kernel
theorem dX8_request_49 : decode cX8_request 49 = .ok (.ireturn, 1) := by decide +kernel
theorem dX8_request_50 : decode cX8_request 50 = .ok (.aload_n 0, 1) := by decide +kernel
theorem dX8_request_51 : decode cX8_request 51 = .ok (.invokevirtual 58, 3) := by decide +kernel
theorem dX8_request_54 : decode cX8_request 54 = .ok (.aload_n 0, 1) := by decide +kernel
theorem dX8_request_55 : decode cX8_request 55 = .ok (.iload_n 1, 1) := by decide +kernel
theorem dX8_request_56 : decode cX8_request 56 = .ok (.iload_n 2, 1) := by decide +kernel
theorem dX8_request_57 : decode cX8_request 57 = .ok (.iload_n 3, 1) := by decide +kernel
theorem dX8_request_58 : decode cX8_request 58 = .ok (.invokevirtual 151, 3) := by decide +kernel
theorem dX8_request_61 : decode cX8_request 61 = .ok (.aload_n 0, 1) := by decide +kernel
theorem dX8_request_62 : decode cX8_request 62 = .ok (.getfield 7, 3) := by decide +kernel
theorem dX8_request_65 : decode cX8_request 65 = .ok (.iconst 5, 1) := by decide +kernel
theorem dX8_request_66 : decode cX8_request 66 = .ok (.iaload, 1) := by decide +kernel
theorem dX8_request_67 : decode cX8_request 67 = .ok (.iconst 1, 1) := by decide +kernel
theorem dX8_request_68 : decode cX8_request 68 = .ok (.isub, 1) := by decide +kernel
theorem dX8_request_69 : decode cX8_request 69 = .ok (.ireturn, 1) := by decide +kernel
theorem dX8_waitingFor_0 : decode cX8_waitingFor 0 = .ok (.iconst 0, 1) := by decide +kernel
theorem dX8_waitingFor_1 : decode cX8_waitingFor 1 = .ok (.istore_n 2, 1) := by decide +kernel
theorem dX8_waitingFor_2 : decode cX8_waitingFor 2 = .ok (.iconst 0, 1) := by decide +kernel
theorem dX8_waitingFor_3 : decode cX8_waitingFor 3 = .ok (.istore_n 3, 1) := by decide +kernel
theorem dX8_waitingFor_4 : decode cX8_waitingFor 4 = .ok (.iload_n 3, 1) := by decide +kernel
theorem dX8_waitingFor_5 : decode cX8_waitingFor 5 = .ok (.aload_n 0, 1) := by decide +kernel
theorem dX8_waitingFor_6 : decode cX8_waitingFor 6 = .ok (.getfield 7, 3) := by decide +kernel
theorem dX8_waitingFor_9 : decode cX8_waitingFor 9 = .ok (.iconst 4, 1) := by decide +kernel
theorem dX8_waitingFor_10 : decode cX8_waitingFor 10 = .ok (.iaload, 1) := by decide +kernel
theorem dX8_waitingFor_11 : decode cX8_waitingFor 11 = .ok (.if_icmp .ge 27, 3) := by decide +kernel
theorem dX8_waitingFor_14 : decode cX8_waitingFor 14 = .ok (.iload_n 2, 1) := by decide +kernel
theorem dX8_waitingFor_15 : decode cX8_waitingFor 15 = .ok (.aload_n 0, 1) := by decide +kernel
theorem dX8_waitingFor_16 : decode cX8_waitingFor 16 = .ok (.iload_n 3, 1) := by decide +kernel
theorem dX8_waitingFor_17 : decode cX8_waitingFor 17 = .ok (.iconst 2, 1) := by decide +kernel
theorem dX8_waitingFor_18 : decode cX8_waitingFor 18 = .ok (.invokevirtual 145, 3) := by decide +kernel
theorem dX8_waitingFor_21 : decode cX8_waitingFor 21 = .ok (.iload_n 1, 1) := by decide +kernel
theorem dX8_waitingFor_22 : decode cX8_waitingFor 22 = .ok (.if_icmp .ne 7, 3) := by decide +kernel
theorem dX8_waitingFor_25 : decode cX8_waitingFor 25 = .ok (.iconst 1, 1) := by decide +kernel
theorem dX8_waitingFor_26 : decode cX8_waitingFor 26 = .ok (.goto 4, 3) := by decide +kernel
theorem dX8_waitingFor_29 : decode cX8_waitingFor 29 = .ok (.iconst 0, 1) := by decide +kernel
theorem dX8_waitingFor_30 : decode cX8_waitingFor 30 = .ok (.iadd, 1) := by decide +kernel
theorem dX8_waitingFor_31 : decode cX8_waitingFor 31 = .ok (.istore_n 2, 1) := by decide +kernel
theorem dX8_waitingFor_32 : decode cX8_waitingFor 32 = .ok (.iinc 3 1, 3) := by decide +kernel
theorem dX8_waitingFor_35 : decode cX8_waitingFor 35 = .ok (.goto (-31), 3) := by decide +kernel
theorem dX8_waitingFor_38 : decode cX8_waitingFor 38 = .ok (.iload_n 2, 1) := by decide +kernel
theorem dX8_waitingFor_39 : decode cX8_waitingFor 39 = .ok (.ireturn, 1) := by decide +kernel
theorem dX8_cancel_0 : decode cX8_cancel 0 = .ok (.aload_n 0, 1) := by decide +kernel
theorem dX8_cancel_1 : decode cX8_cancel 1 = .ok (.iload_n 1, 1) := by decide +kernel
theorem dX8_cancel_2 : decode cX8_cancel 2 = .ok (.invokevirtual 140, 3) := by decide +kernel
theorem dX8_cancel_5 : decode cX8_cancel 5 = .ok (.ifCond .eq 6, 3) := by decide +kernel
theorem dX8_cancel_8 : decode cX8_cancel 8 = .ok (.ldc 144, 2) := by decide +kernel
theorem dX8_cancel_10 : decode cX8_cancel 10 = .ok (.ireturn, 1) := by decide +kernel
theorem dX8_cancel_11 : decode cX8_cancel 11 = .ok (.aload_n 0, 1) := by decide +kernel
theorem dX8_cancel_12 : decode cX8_cancel 12 = .ok (.iload_n 1, 1) := by decide +kernel
theorem dX8_cancel_13 : decode cX8_cancel 13 = .ok (.invokevirtual 154, 3) := by decide +kernel
theorem dX8_cancel_16 : decode cX8_cancel 16 = .ok (.istore_n 2, 1) := by decide +kernel
theorem dX8_cancel_17 : decode cX8_cancel 17 = .ok (.iload_n 2, 1) := by decide +kernel
theorem dX8_cancel_18 : decode cX8_cancel 18 = .ok (.ifCond .ne 6, 3) := by decide +kernel
theorem dX8_cancel_21 : decode cX8_cancel 21 = .ok (.ldc 49, 2) := by decide +kernel
theorem dX8_cancel_23 : decode cX8_cancel 23 = .ok (.ireturn, 1) := by decide +kernel
theorem dX8_cancel_24 : decode cX8_cancel 24 = .ok (.aload_n 0, 1) := by decide +kernel
theorem dX8_cancel_25 : decode cX8_cancel 25 = .ok (.invokevirtual 58, 3) := by decide +kernel
theorem dX8_cancel_28 : decode cX8_cancel 28 = .ok (.aload_n 0, 1) := by decide +kernel
theorem dX8_cancel_29 : decode cX8_cancel 29 = .ok (.getfield 7, 3) := by decide +kernel
theorem dX8_cancel_32 : decode cX8_cancel 32 = .ok (.iconst 4, 1) := by decide +kernel
theorem dX8_cancel_33 : decode cX8_cancel 33 = .ok (.iaload, 1) := by decide +kernel
theorem dX8_cancel_34 : decode cX8_cancel 34 = .ok (.iconst 1, 1) := by decide +kernel
theorem dX8_cancel_35 : decode cX8_cancel 35 = .ok (.isub, 1) := by decide +kernel
theorem dX8_cancel_36 : decode cX8_cancel 36 = .ok (.istore_n 3, 1) := by decide +kernel
theorem dX8_cancel_37 : decode cX8_cancel 37 = .ok (.iload_n 3, 1) := by decide +kernel
theorem dX8_cancel_38 : decode cX8_cancel 38 = .ok (.ifCond .lt 24, 3) := by decide +kernel
theorem dX8_cancel_41 : decode cX8_cancel 41 = .ok (.aload_n 0, 1) := by decide +kernel
theorem dX8_cancel_42 : decode cX8_cancel 42 = .ok (.iload_n 3, 1) := by decide +kernel
theorem dX8_cancel_43 : decode cX8_cancel 43 = .ok (.iconst 2, 1) := by decide +kernel
theorem dX8_cancel_44 : decode cX8_cancel 44 = .ok (.invokevirtual 145, 3) := by decide +kernel
theorem dX8_cancel_47 : decode cX8_cancel 47 = .ok (.iload_n 1, 1) := by decide +kernel
theorem dX8_cancel_48 : decode cX8_cancel 48 = .ok (.if_icmp .ne 8, 3) := by decide +kernel
theorem dX8_cancel_51 : decode cX8_cancel 51 = .ok (.aload_n 0, 1) := by decide +kernel
theorem dX8_cancel_52 : decode cX8_cancel 52 = .ok (.iload_n 3, 1) := by decide +kernel
theorem dX8_cancel_53 : decode cX8_cancel 53 = .ok (.invokevirtual 157, 3) := by decide +kernel
theorem dX8_cancel_56 : decode cX8_cancel 56 = .ok (.iinc 3 (-1), 3) := by decide +kernel
theorem dX8_cancel_59 : decode cX8_cancel 59 = .ok (.goto (-22), 3) := by decide +kernel
theorem dX8_cancel_62 : decode cX8_cancel 62 = .ok (.iload_n 2, 1) := by decide +kernel
theorem dX8_cancel_63 : decode cX8_cancel 63 = .ok (.ireturn, 1) := by decide +kernel
theorem dX8_against_0 : decode cX8_against 0 = .ok (.iload_n 1, 1) := by decide +kernel
theorem dX8_against_1 : decode cX8_against 1 = .ok (.ifCond .ne 17, 3) := by decide +kernel
theorem dX8_against_4 : decode cX8_against 4 = .ok (.aload_n 0, 1) := by decide +kernel
theorem dX8_against_5 : decode cX8_against 5 = .ok (.iload_n 2, 1) := by decide +kernel
theorem dX8_against_6 : decode cX8_against 6 = .ok (.invokevirtual 161, 3) := by decide +kernel
theorem dX8_against_9 : decode cX8_against 9 = .ok (.ifCond .le 7, 3) := by decide +kernel
theorem dX8_against_12 : decode cX8_against 12 = .ok (.iconst 2, 1) := by decide +kernel
theorem dX8_against_13 : decode cX8_against 13 = .ok (.goto 4, 3) := by decide +kernel
theorem dX8_against_16 : decode cX8_against 16 = .ok (.iconst 0, 1) := by decide +kernel
theorem dX8_against_17 : decode cX8_against 17 = .ok (.ireturn, 1) := by decide +kernel
theorem dX8_against_18 : decode cX8_against 18 = .ok (.iload_n 1, 1) := by decide +kernel
theorem dX8_against_19 : decode cX8_against 19 = .ok (.iconst 1, 1) := by decide +kernel
theorem dX8_against_20 : decode cX8_against 20 = .ok (.if_icmp .ne 16, 3) := by decide +kernel
theorem dX8_against_23 : decode cX8_against 23 = .ok (.aload_n 0, 1) := by decide +kernel
theorem dX8_against_24 : decode cX8_against 24 = .ok (.iload_n 2, 1) := by decide +kernel
theorem dX8_against_25 : decode cX8_against 25 = .ok (.bipush 8, 2) := by decide +kernel
theorem dX8_against_27 : decode cX8_against 27 = .ok (.invokevirtual 41, 3) := by decide +kernel
theorem dX8_against_30 : decode cX8_against 30 = .ok (.iconst 1, 1) := by decide +kernel
theorem dX8_against_31 : decode cX8_against 31 = .ok (.if_icmp .ne 5, 3) := by decide +kernel
theorem dX8_against_34 : decode cX8_against 34 = .ok (.iconst 4, 1) := by decide +kernel
theorem dX8_against_35 : decode cX8_against 35 = .ok (.ireturn, 1) := by decide +kernel
theorem dX8_against_36 : decode cX8_against 36 = .ok (.iconst 0, 1) := by decide +kernel
theorem dX8_against_37 : decode cX8_against 37 = .ok (.istore_n 3, 1) := by decide +kernel
theorem dX8_against_38 : decode cX8_against 38 = .ok (.iconst 0, 1) := by decide +kernel
theorem dX8_against_39 : decode cX8_against 39 = .ok (.istore 4, 2) := by decide +kernel
theorem dX8_against_41 : decode cX8_against 41 = .ok (.iload 4, 2) := by decide +kernel
theorem dX8_against_43 : decode cX8_against 43 = .ok (.iconst 3, 1) := by decide +kernel
theorem dX8_against_44 : decode cX8_against 44 = .ok (.if_icmp .ge 85, 3) := by decide +kernel
theorem dX8_against_47 : decode cX8_against 47 = .ok (.iload_n 1, 1) := by decide +kernel
theorem dX8_against_48 : decode cX8_against 48 = .ok (.iconst 1, 1) := by decide +kernel
theorem dX8_against_49 : decode cX8_against 49 = .ok (.if_icmp .ne 31, 3) := by decide +kernel
theorem dX8_against_52 : decode cX8_against 52 = .ok (.aload_n 0, 1) := by decide +kernel
theorem dX8_against_53 : decode cX8_against 53 = .ok (.iload_n 2, 1) := by decide +kernel
theorem dX8_against_54 : decode cX8_against 54 = .ok (.iload 4, 2) := by decide +kernel
theorem dX8_against_56 : decode cX8_against 56 = .ok (.invokevirtual 164, 3) := by decide +kernel
theorem dX8_against_59 : decode cX8_against 59 = .ok (.sipush (-15000), 3) := by decide +kernel
theorem dX8_against_62 : decode cX8_against 62 = .ok (.sipush 15000, 3) := by decide +kernel
theorem dX8_against_65 : decode cX8_against 65 = .ok (.invokestatic 37, 3) := by decide +kernel
theorem dX8_against_68 : decode cX8_against 68 = .ok (.ifCond .eq 7, 3) := by decide +kernel
theorem dX8_against_71 : decode cX8_against 71 = .ok (.iload_n 3, 1) := by decide +kernel
theorem dX8_against_72 : decode cX8_against 72 = .ok (.goto 4, 3) := by decide +kernel
theorem dX8_against_75 : decode cX8_against 75 = .ok (.iconst 3, 1) := by decide +kernel
theorem dX8_against_76 : decode cX8_against 76 = .ok (.istore_n 3, 1) := by decide +kernel
theorem dX8_against_77 : decode cX8_against 77 = .ok (.goto 46, 3) := by decide +kernel
theorem dX8_against_80 : decode cX8_against 80 = .ok (.aload_n 0, 1) := by decide +kernel
theorem dX8_against_81 : decode cX8_against 81 = .ok (.iload_n 2, 1) := by decide +kernel
theorem dX8_against_82 : decode cX8_against 82 = .ok (.iload 4, 2) := by decide +kernel
theorem dX8_against_84 : decode cX8_against 84 = .ok (.iconst 0, 1) := by decide +kernel
theorem dX8_against_85 : decode cX8_against 85 = .ok (.invokevirtual 95, 3) := by decide +kernel
theorem dX8_against_88 : decode cX8_against 88 = .ok (.ifCond .ne 14, 3) := by decide +kernel
theorem dX8_against_91 : decode cX8_against 91 = .ok (.aload_n 0, 1) := by decide +kernel
theorem dX8_against_92 : decode cX8_against 92 = .ok (.iload_n 2, 1) := by decide +kernel
theorem dX8_against_93 : decode cX8_against 93 = .ok (.iload 4, 2) := by decide +kernel
theorem dX8_against_95 : decode cX8_against 95 = .ok (.iconst 1, 1) := by decide +kernel
theorem dX8_against_96 : decode cX8_against 96 = .ok (.invokevirtual 95, 3) := by decide +kernel
theorem dX8_against_99 : decode cX8_against 99 = .ok (.ifCond .eq 8, 3) := by decide +kernel
theorem dX8_against_102 : decode cX8_against 102 = .ok (.iconst 2, 1) := by decide +kernel
theorem dX8_against_103 : decode cX8_against 103 = .ok (.istore_n 3, 1) := by decide +kernel
theorem dX8_against_104 : decode cX8_against 104 = .ok (.goto 19, 3) := by decide +kernel
theorem dX8_against_107 : decode cX8_against 107 = .ok (.aload_n 0, 1) := by decide +kernel
theorem dX8_against_108 : decode cX8_against 108 = .ok (.iload_n 2, 1) := by decide +kernel
theorem dX8_against_109 : decode cX8_against 109 = .ok (.iload 4, 2) := by decide +kernel
theorem dX8_against_111 : decode cX8_against 111 = .ok (.invokevirtual 167, 3) := by decide +kernel
theorem dX8_against_114 : decode cX8_against 114 = .ok (.ifCond .ne 9, 3) := by decide +kernel
theorem dX8_against_117 : decode cX8_against 117 = .ok (.iload_n 3, 1) := by decide +kernel
theorem dX8_against_118 : decode cX8_against 118 = .ok (.ifCond .ne 5, 3) := by decide +kernel
theorem dX8_against_121 : decode cX8_against 121 = .ok (.iconst 5, 1) := by decide +kernel
theorem dX8_against_122 : decode cX8_against 122 = .ok (.istore_n 3, 1) := by decide +kernel
theorem dX8_against_123 : decode cX8_against 123 = .ok (.iinc 4 1, 3) := by decide +kernel
theorem dX8_against_126 : decode cX8_against 126 = .ok (.goto (-85), 3) := by decide +kernel
theorem dX8_against_129 : decode cX8_against 129 = .ok (.iload_n 3, 1) := by decide +kernel
theorem dX8_against_130 : decode cX8_against 130 = .ok (.ireturn, 1) := by decide +kernel
theorem dX8_zeroDue_0 : decode cX8_zeroDue 0 = .ok (.aload_n 0, 1) := by decide +kernel
theorem dX8_zeroDue_1 : decode cX8_zeroDue 1 = .ok (.iload_n 1, 1) := by decide +kernel
theorem dX8_zeroDue_2 : decode cX8_zeroDue 2 = .ok (.iload_n 2, 1) := by decide +kernel
theorem dX8_zeroDue_3 : decode cX8_zeroDue 3 = .ok (.aload_n 0, 1) := by decide +kernel
theorem dX8_zeroDue_4 : decode cX8_zeroDue 4 = .ok (.iload_n 1, 1) := by decide +kernel
theorem dX8_zeroDue_5 : decode cX8_zeroDue 5 = .ok (.bipush 8, 2) := by decide +kernel
theorem dX8_zeroDue_7 : decode cX8_zeroDue 7 = .ok (.invokevirtual 41, 3) := by decide +kernel
theorem dX8_zeroDue_10 : decode cX8_zeroDue 10 = .ok (.invokevirtual 81, 3) := by decide +kernel
theorem dX8_zeroDue_13 : decode cX8_zeroDue 13 = .ok (.aload_n 0, 1) := by decide +kernel
theorem dX8_zeroDue_14 : decode cX8_zeroDue 14 = .ok (.iload_n 1, 1) := by decide +kernel
theorem dX8_zeroDue_15 : decode cX8_zeroDue 15 = .ok (.iload_n 2, 1) := by decide +kernel
theorem dX8_zeroDue_16 : decode cX8_zeroDue 16 = .ok (.iconst 1, 1) := by decide +kernel
theorem dX8_zeroDue_17 : decode cX8_zeroDue 17 = .ok (.invokevirtual 68, 3) := by decide +kernel
theorem dX8_zeroDue_20 : decode cX8_zeroDue 20 = .ok (.iadd, 1) := by decide +kernel
theorem dX8_zeroDue_21 : decode cX8_zeroDue 21 = .ok (.ireturn, 1) := by decide +kernel
theorem dX8_works_0 : decode cX8_works 0 = .ok (.iload_n 1, 1) := by decide +kernel
theorem dX8_works_1 : decode cX8_works 1 = .ok (.ifCond .ne 19, 3) := by decide +kernel
theorem dX8_works_4 : decode cX8_works 4 = .ok (.aload_n 0, 1) := by decide +kernel
theorem dX8_works_5 : decode cX8_works 5 = .ok (.iload_n 2, 1) := by decide +kernel
theorem dX8_works_6 : decode cX8_works 6 = .ok (.invokevirtual 170, 3) := by decide +kernel
theorem dX8_works_9 : decode cX8_works 9 = .ok (.aload_n 0, 1) := by decide +kernel
theorem dX8_works_10 : decode cX8_works 10 = .ok (.invokevirtual 173, 3) := by decide +kernel
theorem dX8_works_13 : decode cX8_works 13 = .ok (.aload_n 0, 1) := by decide +kernel
theorem dX8_works_14 : decode cX8_works 14 = .ok (.invokevirtual 177, 3) := by decide +kernel
theorem dX8_works_17 : decode cX8_works 17 = .ok (.ladd, 1) := by decide +kernel
theorem dX8_works_18 : decode cX8_works 18 = .ok (.l2i, 1) := by decide +kernel
theorem dX8_works_19 : decode cX8_works 19 = .ok (.ireturn, 1) := by decide +kernel
theorem dX8_works_20 : decode cX8_works 20 = .ok (.iconst 0, 1) := by decide +kernel
theorem dX8_works_21 : decode cX8_works 21 = .ok (.istore_n 3, 1) := by decide +kernel
theorem dX8_works_22 : decode cX8_works 22 = .ok (.iconst 0, 1) := by decide +kernel
theorem dX8_works_23 : decode cX8_works 23 = .ok (.istore 4, 2) := by decide +kernel
theorem dX8_works_25 : decode cX8_works 25 = .ok (.iload 4, 2) := by decide +kernel
theorem dX8_works_27 : decode cX8_works 27 = .ok (.iconst 3, 1) := by decide +kernel
theorem dX8_works_28 : decode cX8_works 28 = .ok (.if_icmp .ge 88, 3) := by decide +kernel
theorem dX8_works_31 : decode cX8_works 31 = .ok (.iload_n 1, 1) := by decide +kernel
theorem dX8_works_32 : decode cX8_works 32 = .ok (.iconst 1, 1) := by decide +kernel
theorem dX8_works_33 : decode cX8_works 33 = .ok (.if_icmp .ne 7, 3) := by decide +kernel
theorem dX8_works_36 : decode cX8_works 36 = .ok (.iconst 1, 1) := by decide +kernel
theorem dX8_works_37 : decode cX8_works 37 = .ok (.goto 4, 3) := by decide +kernel
theorem dX8_works_40 : decode cX8_works 40 = .ok (.iconst 2, 1) := by decide +kernel
theorem dX8_works_41 : decode cX8_works 41 = .ok (.istore 5, 2) := by decide +kernel
theorem dX8_works_43 : decode cX8_works 43 = .ok (.iload_n 1, 1) := by decide +kernel
theorem dX8_works_44 : decode cX8_works 44 = .ok (.iconst 1, 1) := by decide +kernel
theorem dX8_works_45 : decode cX8_works 45 = .ok (.if_icmp .ne 13, 3) := by decide +kernel
theorem dX8_works_48 : decode cX8_works 48 = .ok (.aload_n 0, 1) := by decide +kernel
theorem dX8_works_49 : decode cX8_works 49 = .ok (.iload_n 2, 1) := by decide +kernel
theorem dX8_works_50 : decode cX8_works 50 = .ok (.iload 4, 2) := by decide +kernel
theorem dX8_works_52 : decode cX8_works 52 = .ok (.invokevirtual 164, 3) := by decide +kernel
theorem dX8_works_55 : decode cX8_works 55 = .ok (.goto 20, 3) := by decide +kernel
theorem dX8_works_58 : decode cX8_works 58 = .ok (.aload_n 0, 1) := by decide +kernel
theorem dX8_works_59 : decode cX8_works 59 = .ok (.iload_n 2, 1) := by decide +kernel
theorem dX8_works_60 : decode cX8_works 60 = .ok (.invokevirtual 78, 3) := by decide +kernel
theorem dX8_works_63 : decode cX8_works 63 = .ok (.sipush 1000, 3) := by decide +kernel
theorem dX8_works_66 : decode cX8_works 66 = .ok (.imul, 1) := by decide +kernel
theorem dX8_works_67 : decode cX8_works 67 = .ok (.aload_n 0, 1) := by decide +kernel
theorem dX8_works_68 : decode cX8_works 68 = .ok (.iload_n 2, 1) := by decide +kernel
theorem dX8_works_69 : decode cX8_works 69 = .ok (.iload 4, 2) := by decide +kernel
theorem dX8_works_71 : decode cX8_works 71 = .ok (.invokevirtual 167, 3) := by decide +kernel
theorem dX8_works_74 : decode cX8_works 74 = .ok (.idiv, 1) := by decide +kernel
theorem dX8_works_75 : decode cX8_works 75 = .ok (.istore 6, 2) := by decide +kernel
theorem dX8_works_77 : decode cX8_works 77 = .ok (.iload_n 3, 1) := by decide +kernel
theorem dX8_works_78 : decode cX8_works 78 = .ok (.iload 6, 2) := by decide +kernel
theorem dX8_works_80 : decode cX8_works 80 = .ok (.aload_n 0, 1) := by decide +kernel
theorem dX8_works_81 : decode cX8_works 81 = .ok (.iload_n 2, 1) := by decide +kernel
theorem dX8_works_82 : decode cX8_works 82 = .ok (.iload 4, 2) := by decide +kernel
theorem dX8_works_84 : decode cX8_works 84 = .ok (.iload 5, 2) := by decide +kernel
theorem dX8_works_86 : decode cX8_works 86 = .ok (.invokevirtual 68, 3) := by decide +kernel
theorem dX8_works_89 : decode cX8_works 89 = .ok (.if_icmp .eq 7, 3) := by decide +kernel
theorem dX8_works_92 : decode cX8_works 92 = .ok (.iconst 1, 1) := by decide +kernel
theorem dX8_works_93 : decode cX8_works 93 = .ok (.goto 4, 3) := by decide +kernel
theorem dX8_works_96 : decode cX8_works 96 = .ok (.iconst 0, 1) := by decide +kernel
theorem dX8_works_97 : decode cX8_works 97 = .ok (.iadd, 1) := by decide +kernel
theorem dX8_works_98 : decode cX8_works 98 = .ok (.istore_n 3, 1) := by decide +kernel
theorem dX8_works_99 : decode cX8_works 99 = .ok (.aload_n 0, 1) := by decide +kernel
theorem dX8_works_100 : decode cX8_works 100 = .ok (.iload_n 2, 1) := by decide +kernel
theorem dX8_works_101 : decode cX8_works 101 = .ok (.iload 4, 2) := by decide +kernel
theorem dX8_works_103 : decode cX8_works 103 = .ok (.iload 5, 2) := by decide +kernel
theorem dX8_works_105 : decode cX8_works 105 = .ok (.iload 6, 2) := by decide +kernel
theorem dX8_works_107 : decode cX8_works 107 = .ok (.invokevirtual 61, 3) := by decide +kernel
theorem dX8_works_110 : decode cX8_works 110 = .ok (.iinc 4 1, 3) := by decide +kernel
theorem dX8_works_113 : decode cX8_works 113 = .ok (.goto (-88), 3) := by decide +kernel
theorem dX8_works_116 : decode cX8_works 116 = .ok (.iload_n 3, 1) := by decide +kernel
theorem dX8_works_117 : decode cX8_works 117 = .ok (.ireturn, 1) := by decide +kernel
theorem dX8_note_0 : decode cX8_note 0 = .ok (.aload_n 0, 1) := by decide +kernel
theorem dX8_note_1 : decode cX8_note 1 = .ok (.getfield 7, 3) := by decide +kernel
theorem dX8_note_4 : decode cX8_note 4 = .ok (.bipush 8, 2) := by decide +kernel
theorem dX8_note_6 : decode cX8_note 6 = .ok (.iaload, 1) := by decide +kernel
theorem dX8_note_7 : decode cX8_note 7 = .ok (.bipush 12, 2) := by decide +kernel
theorem dX8_note_9 : decode cX8_note 9 = .ok (.if_icmp .ne 49, 3) := by decide +kernel
theorem dX8_note_12 : decode cX8_note 12 = .ok (.sipush 250, 3) := by decide +kernel
theorem dX8_note_15 : decode cX8_note 15 = .ok (.istore 5, 2) := by decide +kernel
theorem dX8_note_17 : decode cX8_note 17 = .ok (.iload 5, 2) := by decide +kernel
theorem dX8_note_19 : decode cX8_note 19 = .ok (.sipush 294, 3) := by decide +kernel
theorem dX8_note_22 : decode cX8_note 22 = .ok (.if_icmp .ge 25, 3) := by decide +kernel
theorem dX8_note_25 : decode cX8_note 25 = .ok (.aload_n 0, 1) := by decide +kernel
theorem dX8_note_26 : decode cX8_note 26 = .ok (.getfield 7, 3) := by decide +kernel
theorem dX8_note_29 : decode cX8_note 29 = .ok (.iload 5, 2) := by decide +kernel
theorem dX8_note_31 : decode cX8_note 31 = .ok (.aload_n 0, 1) := by decide +kernel
theorem dX8_note_32 : decode cX8_note 32 = .ok (.getfield 7, 3) := by decide +kernel
theorem dX8_note_35 : decode cX8_note 35 = .ok (.iload 5, 2) := by decide +kernel
theorem dX8_note_37 : decode cX8_note 37 = .ok (.iconst 4, 1) := by decide +kernel
theorem dX8_note_38 : decode cX8_note 38 = .ok (.iadd, 1) := by decide +kernel
theorem dX8_note_39 : decode cX8_note 39 = .ok (.iaload, 1) := by decide +kernel
theorem dX8_note_40 : decode cX8_note 40 = .ok (.iastore, 1) := by decide +kernel
theorem dX8_note_41 : decode cX8_note 41 = .ok (.iinc 5 1, 3) := by decide +kernel
theorem dX8_note_44 : decode cX8_note 44 = .ok (.goto (-27), 3) := by decide +kernel
theorem dX8_note_47 : decode cX8_note 47 = .ok (.aload_n 0, 1) := by decide +kernel
theorem dX8_note_48 : decode cX8_note 48 = .ok (.getfield 7, 3) := by decide +kernel
theorem dX8_note_51 : decode cX8_note 51 = .ok (.bipush 8, 2) := by decide +kernel
theorem dX8_note_53 : decode cX8_note 53 = .ok (.dup2, 1) := by decide +kernel
theorem dX8_note_54 : decode cX8_note 54 = .ok (.iaload, 1) := by decide +kernel
theorem dX8_note_55 : decode cX8_note 55 = .ok (.iconst 1, 1) := by decide +kernel
theorem dX8_note_56 : decode cX8_note 56 = .ok (.isub, 1) := by decide +kernel
theorem dX8_note_57 : decode cX8_note 57 = .ok (.iastore, 1) := by decide +kernel
theorem dX8_note_58 : decode cX8_note 58 = .ok (.sipush 250, 3) := by decide +kernel
theorem dX8_note_61 : decode cX8_note 61 = .ok (.iconst 4, 1) := by decide +kernel
theorem dX8_note_62 : decode cX8_note 62 = .ok (.aload_n 0, 1) := by decide +kernel
theorem dX8_note_63 : decode cX8_note 63 = .ok (.getfield 7, 3) := by decide +kernel
theorem dX8_note_66 : decode cX8_note 66 = .ok (.bipush 8, 2) := by decide +kernel
theorem dX8_note_68 : decode cX8_note 68 = .ok (.iaload, 1) := by decide +kernel
theorem dX8_note_69 : decode cX8_note 69 = .ok (.imul, 1) := by decide +kernel
theorem dX8_note_70 : decode cX8_note 70 = .ok (.iadd, 1) := by decide +kernel
theorem dX8_note_71 : decode cX8_note 71 = .ok (.istore 5, 2) := by decide +kernel
theorem dX8_note_73 : decode cX8_note 73 = .ok (.aload_n 0, 1) := by decide +kernel
theorem dX8_note_74 : decode cX8_note 74 = .ok (.getfield 7, 3) := by decide +kernel
theorem dX8_note_77 : decode cX8_note 77 = .ok (.iload 5, 2) := by decide +kernel
theorem dX8_note_79 : decode cX8_note 79 = .ok (.iload_n 1, 1) := by decide +kernel
theorem dX8_note_80 : decode cX8_note 80 = .ok (.iastore, 1) := by decide +kernel
theorem dX8_note_81 : decode cX8_note 81 = .ok (.aload_n 0, 1) := by decide +kernel
theorem dX8_note_82 : decode cX8_note 82 = .ok (.getfield 7, 3) := by decide +kernel
theorem dX8_note_85 : decode cX8_note 85 = .ok (.iload 5, 2) := by decide +kernel
theorem dX8_note_87 : decode cX8_note 87 = .ok (.iconst 1, 1) := by decide +kernel
theorem dX8_note_88 : decode cX8_note 88 = .ok (.iadd, 1) := by decide +kernel
theorem dX8_note_89 : decode cX8_note 89 = .ok (.iload_n 2, 1) := by decide +kernel
theorem dX8_note_90 : decode cX8_note 90 = .ok (.iastore, 1) := by decide +kernel
theorem dX8_note_91 : decode cX8_note 91 = .ok (.aload_n 0, 1) := by decide +kernel
theorem dX8_note_92 : decode cX8_note 92 = .ok (.getfield 7, 3) := by decide +kernel
theorem dX8_note_95 : decode cX8_note 95 = .ok (.iload 5, 2) := by decide +kernel
theorem dX8_note_97 : decode cX8_note 97 = .ok (.iconst 2, 1) := by decide +kernel
theorem dX8_note_98 : decode cX8_note 98 = .ok (.iadd, 1) := by decide +kernel
theorem dX8_note_99 : decode cX8_note 99 = .ok (.iload_n 3, 1) := by decide +kernel
theorem dX8_note_100 : decode cX8_note 100 = .ok (.iastore, 1) := by decide +kernel
theorem dX8_note_101 : decode cX8_note 101 = .ok (.aload_n 0, 1) := by decide +kernel
theorem dX8_note_102 : decode cX8_note 102 = .ok (.getfield 7, 3) := by decide +kernel
theorem dX8_note_105 : decode cX8_note 105 = .ok (.iload 5, 2) := by decide +kernel
theorem dX8_note_107 : decode cX8_note 107 = .ok (.iconst 3, 1) := by decide +kernel
theorem dX8_note_108 : decode cX8_note 108 = .ok (.iadd, 1) := by decide +kernel
theorem dX8_note_109 : decode cX8_note 109 = .ok (.iload 4, 2) := by decide +kernel
theorem dX8_note_111 : decode cX8_note 111 = .ok (.iastore, 1) := by decide +kernel
theorem dX8_note_112 : decode cX8_note 112 = .ok (.aload_n 0, 1) := by decide +kernel
theorem dX8_note_113 : decode cX8_note 113 = .ok (.getfield 7, 3) := by decide +kernel
theorem dX8_note_116 : decode cX8_note 116 = .ok (.bipush 8, 2) := by decide +kernel
theorem dX8_note_118 : decode cX8_note 118 = .ok (.dup2, 1) := by decide +kernel
theorem dX8_note_119 : decode cX8_note 119 = .ok (.iaload, 1) := by decide +kernel
theorem dX8_note_120 : decode cX8_note 120 = .ok (.iconst 1, 1) := by decide +kernel
theorem dX8_note_121 : decode cX8_note 121 = .ok (.iadd, 1) := by decide +kernel
theorem dX8_note_122 : decode cX8_note 122 = .ok (.iastore, 1) := by decide +kernel
theorem dX8_note_123 : decode cX8_note 123 = .ok (.return_, 1) := by decide +kernel
theorem dX8_doNext_0 : decode cX8_doNext 0 = .ok (.aload_n 0, 1) := by decide +kernel
theorem dX8_doNext_1 : decode cX8_doNext 1 = .ok (.iconst 0, 1) := by decide +kernel
theorem dX8_doNext_2 : decode cX8_doNext 2 = .ok (.aload_n 0, 1) := by decide +kernel
theorem dX8_doNext_3 : decode cX8_doNext 3 = .ok (.getfield 7, 3) := by decide +kernel
theorem dX8_doNext_6 : decode cX8_doNext 6 = .ok (.iconst 1, 1) := by decide +kernel
theorem dX8_doNext_7 : decode cX8_doNext 7 = .ok (.iaload, 1) := by decide +kernel
theorem dX8_doNext_8 : decode cX8_doNext 8 = .ok (.invokevirtual 180, 3) := by decide +kernel
theorem dX8_doNext_11 : decode cX8_doNext 11 = .ok (.istore_n 1, 1) := by decide +kernel
theorem dX8_doNext_12 : decode cX8_doNext 12 = .ok (.aload_n 0, 1) := by decide +kernel
theorem dX8_doNext_13 : decode cX8_doNext 13 = .ok (.iload_n 1, 1) := by decide +kernel
theorem dX8_doNext_14 : decode cX8_doNext 14 = .ok (.iconst 1, 1) := by decide +kernel
theorem dX8_doNext_15 : decode cX8_doNext 15 = .ok (.invokevirtual 145, 3) := by decide +kernel
theorem dX8_doNext_18 : decode cX8_doNext 18 = .ok (.istore_n 2, 1) := by decide +kernel
theorem dX8_doNext_19 : decode cX8_doNext 19 = .ok (.aload_n 0, 1) := by decide +kernel
theorem dX8_doNext_20 : decode cX8_doNext 20 = .ok (.iload_n 1, 1) := by decide +kernel
theorem dX8_doNext_21 : decode cX8_doNext 21 = .ok (.iconst 2, 1) := by decide +kernel
theorem dX8_doNext_22 : decode cX8_doNext 22 = .ok (.invokevirtual 145, 3) := by decide +kernel
theorem dX8_doNext_25 : decode cX8_doNext 25 = .ok (.istore_n 3, 1) := by decide +kernel
theorem dX8_doNext_26 : decode cX8_doNext 26 = .ok (.aload_n 0, 1) := by decide +kernel
theorem dX8_doNext_27 : decode cX8_doNext 27 = .ok (.getfield 7, 3) := by decide +kernel
theorem dX8_doNext_30 : decode cX8_doNext 30 = .ok (.iconst 2, 1) := by decide +kernel
theorem dX8_doNext_31 : decode cX8_doNext 31 = .ok (.dup2, 1) := by decide +kernel
theorem dX8_doNext_32 : decode cX8_doNext 32 = .ok (.iaload, 1) := by decide +kernel
theorem dX8_doNext_33 : decode cX8_doNext 33 = .ok (.aload_n 0, 1) := by decide +kernel
theorem dX8_doNext_34 : decode cX8_doNext 34 = .ok (.iload_n 1, 1) := by decide +kernel
theorem dX8_doNext_35 : decode cX8_doNext 35 = .ok (.aload_n 0, 1) := by decide +kernel
theorem dX8_doNext_36 : decode cX8_doNext 36 = .ok (.getfield 7, 3) := by decide +kernel
theorem dX8_doNext_39 : decode cX8_doNext 39 = .ok (.iconst 1, 1) := by decide +kernel
theorem dX8_doNext_40 : decode cX8_doNext 40 = .ok (.iaload, 1) := by decide +kernel
theorem dX8_doNext_41 : decode cX8_doNext 41 = .ok (.invokevirtual 148, 3) := by decide +kernel
theorem dX8_doNext_44 : decode cX8_doNext 44 = .ok (.iadd, 1) := by decide +kernel
theorem dX8_doNext_45 : decode cX8_doNext 45 = .ok (.iastore, 1) := by decide +kernel
theorem dX8_doNext_46 : decode cX8_doNext 46 = .ok (.aload_n 0, 1) := by decide +kernel
theorem dX8_doNext_47 : decode cX8_doNext 47 = .ok (.getfield 7, 3) := by decide +kernel
theorem dX8_doNext_50 : decode cX8_doNext 50 = .ok (.iconst 1, 1) := by decide +kernel
theorem dX8_doNext_51 : decode cX8_doNext 51 = .ok (.aload_n 0, 1) := by decide +kernel
theorem dX8_doNext_52 : decode cX8_doNext 52 = .ok (.iload_n 3, 1) := by decide +kernel
theorem dX8_doNext_53 : decode cX8_doNext 53 = .ok (.iconst 0, 1) := by decide +kernel
theorem dX8_doNext_54 : decode cX8_doNext 54 = .ok (.invokevirtual 41, 3) := by decide +kernel
theorem dX8_doNext_57 : decode cX8_doNext 57 = .ok (.iastore, 1) := by decide +kernel
theorem dX8_doNext_58 : decode cX8_doNext 58 = .ok (.aload_n 0, 1) := by decide +kernel
theorem dX8_doNext_59 : decode cX8_doNext 59 = .ok (.iload_n 1, 1) := by decide +kernel
theorem dX8_doNext_60 : decode cX8_doNext 60 = .ok (.invokevirtual 157, 3) := by decide +kernel
theorem dX8_doNext_63 : decode cX8_doNext 63 = .ok (.aload_n 0, 1) := by decide +kernel
theorem dX8_doNext_64 : decode cX8_doNext 64 = .ok (.getfield 7, 3) := by decide +kernel
theorem dX8_doNext_67 : decode cX8_doNext 67 = .ok (.bipush 6, 2) := by decide +kernel
theorem dX8_doNext_69 : decode cX8_doNext 69 = .ok (.dup2, 1) := by decide +kernel
theorem dX8_doNext_70 : decode cX8_doNext 70 = .ok (.iaload, 1) := by decide +kernel
theorem dX8_doNext_71 : decode cX8_doNext 71 = .ok (.iconst 1, 1) := by decide +kernel
theorem dX8_doNext_72 : decode cX8_doNext 72 = .ok (.iadd, 1) := by decide +kernel
theorem dX8_doNext_73 : decode cX8_doNext 73 = .ok (.iastore, 1) := by decide +kernel
theorem dX8_doNext_74 : decode cX8_doNext 74 = .ok (.aload_n 0, 1) := by decide +kernel
theorem dX8_doNext_75 : decode cX8_doNext 75 = .ok (.iload_n 2, 1) := by decide +kernel
theorem dX8_doNext_76 : decode cX8_doNext 76 = .ok (.iload_n 3, 1) := by decide +kernel
theorem dX8_doNext_77 : decode cX8_doNext 77 = .ok (.invokevirtual 183, 3) := by decide +kernel
theorem dX8_doNext_80 : decode cX8_doNext 80 = .ok (.istore 4, 2) := by decide +kernel
theorem dX8_doNext_82 : decode cX8_doNext 82 = .ok (.iload 4, 2) := by decide +kernel
theorem dX8_doNext_84 : decode cX8_doNext 84 = .ok (.ifCond .le 20, 3) := by decide +kernel
theorem dX8_doNext_87 : decode cX8_doNext 87 = .ok (.aload_n 0, 1) := by decide +kernel
theorem dX8_doNext_88 : decode cX8_doNext 88 = .ok (.iload 4, 2) := by decide +kernel
theorem dX8_doNext_90 : decode cX8_doNext 90 = .ok (.putfield 33, 3) := by decide +kernel
theorem dX8_doNext_93 : decode cX8_doNext 93 = .ok (.aload_n 0, 1) := by decide +kernel
theorem dX8_doNext_94 : decode cX8_doNext 94 = .ok (.getfield 7, 3) := by decide +kernel
theorem dX8_doNext_97 : decode cX8_doNext 97 = .ok (.bipush 7, 2) := by decide +kernel
theorem dX8_doNext_99 : decode cX8_doNext 99 = .ok (.dup2, 1) := by decide +kernel
theorem dX8_doNext_100 : decode cX8_doNext 100 = .ok (.iaload, 1) := by decide +kernel
theorem dX8_doNext_101 : decode cX8_doNext 101 = .ok (.iconst 1, 1) := by decide +kernel
theorem dX8_doNext_102 : decode cX8_doNext 102 = .ok (.iadd, 1) := by decide +kernel
theorem dX8_doNext_103 : decode cX8_doNext 103 = .ok (.iastore, 1) := by decide +kernel
theorem dX8_doNext_104 : decode cX8_doNext 104 = .ok (.aload_n 0, 1) := by decide +kernel
theorem dX8_doNext_105 : decode cX8_doNext 105 = .ok (.iload_n 2, 1) := by decide +kernel
theorem dX8_doNext_106 : decode cX8_doNext 106 = .ok (.iload_n 3, 1) := by decide +kernel
theorem dX8_doNext_107 : decode cX8_doNext 107 = .ok (.iload 4, 2) := by decide +kernel
theorem dX8_doNext_109 : decode cX8_doNext 109 = .ok (.ifCond .le 8, 3) := by decide +kernel
theorem dX8_doNext_112 : decode cX8_doNext 112 = .ok (.ldc 49, 2) := by decide +kernel
theorem dX8_doNext_114 : decode cX8_doNext 114 = .ok (.goto 9, 3) := by decide +kernel
theorem dX8_doNext_117 : decode cX8_doNext 117 = .ok (.aload_n 0, 1) := by decide +kernel
theorem dX8_doNext_118 : decode cX8_doNext 118 = .ok (.iload_n 2, 1) := by decide +kernel
theorem dX8_doNext_119 : decode cX8_doNext 119 = .ok (.iload_n 3, 1) := by decide +kernel
theorem dX8_doNext_120 : decode cX8_doNext 120 = .ok (.invokevirtual 186, 3) := by decide +kernel
theorem dX8_doNext_123 : decode cX8_doNext 123 = .ok (.iload 4, 2) := by decide +kernel
theorem dX8_doNext_125 : decode cX8_doNext 125 = .ok (.invokevirtual 189, 3) := by decide +kernel
theorem dX8_doNext_128 : decode cX8_doNext 128 = .ok (.iload 4, 2) := by decide +kernel
theorem dX8_doNext_130 : decode cX8_doNext 130 = .ok (.ifCond .ne 7, 3) := by decide +kernel
theorem dX8_doNext_133 : decode cX8_doNext 133 = .ok (.iconst 1, 1) := by decide +kernel
theorem dX8_doNext_134 : decode cX8_doNext 134 = .ok (.goto 4, 3) := by decide +kernel
theorem dX8_doNext_137 : decode cX8_doNext 137 = .ok (.iconst 0, 1) := by decide +kernel
theorem dX8_doNext_138 : decode cX8_doNext 138 = .ok (.ireturn, 1) := by decide +kernel
theorem dX8_next_0 : decode cX8_next 0 = .ok (.aload_n 0, 1) := by decide +kernel
theorem dX8_next_1 : decode cX8_next 1 = .ok (.getfield 7, 3) := by decide +kernel
theorem dX8_next_4 : decode cX8_next 4 = .ok (.iconst 4, 1) := by decide +kernel
theorem dX8_next_5 : decode cX8_next 5 = .ok (.iaload, 1) := by decide +kernel
theorem dX8_next_6 : decode cX8_next 6 = .ok (.ifCond .ne 6, 3) := by decide +kernel
theorem dX8_next_9 : decode cX8_next 9 = .ok (.ldc 49, 2) := by decide +kernel
theorem dX8_next_11 : decode cX8_next 11 = .ok (.ireturn, 1) := by decide +kernel
theorem dX8_next_12 : decode cX8_next 12 = .ok (.aload_n 0, 1) := by decide +kernel
theorem dX8_next_13 : decode cX8_next 13 = .ok (.invokevirtual 58, 3) := by decide +kernel
theorem dX8_next_16 : decode cX8_next 16 = .ok (.aload_n 0, 1) := by decide +kernel
theorem dX8_next_17 : decode cX8_next 17 = .ok (.aload_n 0, 1) := by decide +kernel
theorem dX8_next_18 : decode cX8_next 18 = .ok (.iconst 0, 1) := by decide +kernel
