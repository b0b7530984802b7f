theorem dX7_init_27 : decode cX7_init 27 = .ok (.new 19, 3) := by decide +kernel
theorem dX7_init_30 : decode cX7_init 30 = .ok (.dup, 1) := by decide +kernel
theorem dX7_init_31 : decode cX7_init 31 = .ok (.invokespecial 21, 3) := by decide +kernel
theorem dX7_init_34 : decode cX7_init 34 = .ok (.putfield 22, 3) := by decide +kernel
theorem dX7_init_37 : decode cX7_init 37 = .ok (.aload_n 0, 1) := by decide +kernel
theorem dX7_init_38 : decode cX7_init 38 = .ok (.new 26, 3) := by decide +kernel
theorem dX7_init_41 : decode cX7_init 41 = .ok (.dup, 1) := by decide +kernel
theorem dX7_init_42 : decode cX7_init 42 = .ok (.invokespecial 28, 3) := by decide +kernel
theorem dX7_init_45 : decode cX7_init 45 = .ok (.putfield 29, 3) := by decide +kernel
theorem dX7_init_48 : decode cX7_init 48 = .ok (.aload_n 0, 1) := by decide +kernel
theorem dX7_init_49 : decode cX7_init 49 = .ok (.new 33, 3) := by decide +kernel
theorem dX7_init_52 : decode cX7_init 52 = .ok (.dup, 1) := by decide +kernel
theorem dX7_init_53 : decode cX7_init 53 = .ok (.invokespecial 35, 3) := by decide +kernel
theorem dX7_init_56 : decode cX7_init 56 = .ok (.putfield 36, 3) := by decide +kernel
theorem dX7_init_59 : decode cX7_init 59 = .ok (.aload_n 0, 1) := by decide +kernel
theorem dX7_init_60 : decode cX7_init 60 = .ok (.new 40, 3) := by decide +kernel
theorem dX7_init_63 : decode cX7_init 63 = .ok (.dup, 1) := by decide +kernel
theorem dX7_init_64 : decode cX7_init 64 = .ok (.invokespecial 42, 3) := by decide +kernel
theorem dX7_init_67 : decode cX7_init 67 = .ok (.putfield 43, 3) := by decide +kernel
theorem dX7_init_70 : decode cX7_init 70 = .ok (.return_, 1) := by decide +kernel
theorem dX7_addRosette_0 : decode cX7_addRosette 0 = .ok (.iload_n 3, 1) := by decide +kernel
theorem dX7_addRosette_1 : decode cX7_addRosette 1 = .ok (.bipush 120, 2) := by decide +kernel
theorem dX7_addRosette_3 : decode cX7_addRosette 3 = .ok (.if_icmp .eq 10, 3) := by decide +kernel
theorem dX7_addRosette_6 : decode cX7_addRosette 6 = .ok (.iload_n 3, 1) := by decide +kernel
theorem dX7_addRosette_7 : decode cX7_addRosette 7 = .ok (.sipush 350, 3) := by decide +kernel
theorem dX7_addRosette_10 : decode cX7_addRosette 10 = .ok (.if_icmp .ne 7, 3) := by decide +kernel
theorem dX7_addRosette_13 : decode cX7_addRosette 13 = .ok (.iconst 1, 1) := by decide +kernel
theorem dX7_addRosette_14 : decode cX7_addRosette 14 = .ok (.goto 4, 3) := by decide +kernel
theorem dX7_addRosette_17 : decode cX7_addRosette 17 = .ok (.iconst 0, 1) := by decide +kernel
theorem dX7_addRosette_18 : decode cX7_addRosette 18 = .ok (.istore 5, 2) := by decide +kernel
theorem dX7_addRosette_20 : decode cX7_addRosette 20 = .ok (.iload_n 1, 1) := by decide +kernel
theorem dX7_addRosette_21 : decode cX7_addRosette 21 = .ok (.iconst 0, 1) := by decide +kernel
theorem dX7_addRosette_22 : decode cX7_addRosette 22 = .ok (.sipush 1000, 3) := by decide +kernel
theorem dX7_addRosette_25 : decode cX7_addRosette 25 = .ok (.invokestatic 47, 3) := by decide +kernel
theorem dX7_addRosette_28 : decode cX7_addRosette 28 = .ok (.ifCond .eq 22, 3) := by decide +kernel
theorem dX7_addRosette_31 : decode cX7_addRosette 31 = .ok (.iload 5, 2) := by decide +kernel
theorem dX7_addRosette_33 : decode cX7_addRosette 33 = .ok (.ifCond .eq 17, 3) := by decide +kernel
theorem dX7_addRosette_36 : decode cX7_addRosette 36 = .ok (.iload 4, 2) := by decide +kernel
theorem dX7_addRosette_38 : decode cX7_addRosette 38 = .ok (.sipush 180, 3) := by decide +kernel
theorem dX7_addRosette_41 : decode cX7_addRosette 41 = .ok (.sipush 240, 3) := by decide +kernel
theorem dX7_addRosette_44 : decode cX7_addRosette 44 = .ok (.invokestatic 47, 3) := by decide +kernel
theorem dX7_addRosette_47 : decode cX7_addRosette 47 = .ok (.ifCond .ne 6, 3) := by decide +kernel
theorem dX7_addRosette_50 : decode cX7_addRosette 50 = .ok (.ldc 51, 2) := by decide +kernel
theorem dX7_addRosette_52 : decode cX7_addRosette 52 = .ok (.ireturn, 1) := by decide +kernel
theorem dX7_addRosette_53 : decode cX7_addRosette 53 = .ok (.aload_n 0, 1) := by decide +kernel
theorem dX7_addRosette_54 : decode cX7_addRosette 54 = .ok (.getfield 10, 3) := by decide +kernel
theorem dX7_addRosette_57 : decode cX7_addRosette 57 = .ok (.getfield 52, 3) := by decide +kernel
theorem dX7_addRosette_60 : decode cX7_addRosette 60 = .ok (.istore 6, 2) := by decide +kernel
theorem dX7_addRosette_62 : decode cX7_addRosette 62 = .ok (.iload 6, 2) := by decide +kernel
theorem dX7_addRosette_64 : decode cX7_addRosette 64 = .ok (.ifCond .lt 16, 3) := by decide +kernel
theorem dX7_addRosette_67 : decode cX7_addRosette 67 = .ok (.iload 6, 2) := by decide +kernel
theorem dX7_addRosette_69 : decode cX7_addRosette 69 = .ok (.aload_n 0, 1) := by decide +kernel
theorem dX7_addRosette_70 : decode cX7_addRosette 70 = .ok (.getfield 10, 3) := by decide +kernel
theorem dX7_addRosette_73 : decode cX7_addRosette 73 = .ok (.getfield 56, 3) := by decide +kernel
theorem dX7_addRosette_76 : decode cX7_addRosette 76 = .ok (.arraylength, 1) := by decide +kernel
theorem dX7_addRosette_77 : decode cX7_addRosette 77 = .ok (.if_icmp .lt 9, 3) := by decide +kernel
theorem dX7_addRosette_80 : decode cX7_addRosette 80 = .ok (.aload_n 0, 1) := by decide +kernel
theorem dX7_addRosette_81 : decode cX7_addRosette 81 = .ok (.iconst 1, 1) := by decide +kernel
theorem dX7_addRosette_82 : decode cX7_addRosette 82 = .ok (.invokevirtual 60, 3) := by decide +kernel
theorem dX7_addRosette_85 : decode cX7_addRosette 85 = .ok (.ireturn, 1) := by decide +kernel
theorem dX7_addRosette_86 : decode cX7_addRosette 86 = .ok (.aload_n 0, 1) := by decide +kernel
theorem dX7_addRosette_87 : decode cX7_addRosette 87 = .ok (.getfield 10, 3) := by decide +kernel
theorem dX7_addRosette_90 : decode cX7_addRosette 90 = .ok (.iload_n 1, 1) := by decide +kernel
theorem dX7_addRosette_91 : decode cX7_addRosette 91 = .ok (.invokevirtual 64, 3) := by decide +kernel
theorem dX7_addRosette_94 : decode cX7_addRosette 94 = .ok (.ifCond .eq 10, 3) := by decide +kernel
theorem dX7_addRosette_97 : decode cX7_addRosette 97 = .ok (.aload_n 0, 1) := by decide +kernel
theorem dX7_addRosette_98 : decode cX7_addRosette 98 = .ok (.bipush 6, 2) := by decide +kernel
theorem dX7_addRosette_100 : decode cX7_addRosette 100 = .ok (.invokevirtual 60, 3) := by decide +kernel
theorem dX7_addRosette_103 : decode cX7_addRosette 103 = .ok (.ireturn, 1) := by decide +kernel
theorem dX7_addRosette_104 : decode cX7_addRosette 104 = .ok (.aload_n 0, 1) := by decide +kernel
theorem dX7_addRosette_105 : decode cX7_addRosette 105 = .ok (.getfield 22, 3) := by decide +kernel
theorem dX7_addRosette_108 : decode cX7_addRosette 108 = .ok (.aload_n 0, 1) := by decide +kernel
theorem dX7_addRosette_109 : decode cX7_addRosette 109 = .ok (.getfield 10, 3) := by decide +kernel
theorem dX7_addRosette_112 : decode cX7_addRosette 112 = .ok (.invokevirtual 68, 3) := by decide +kernel
theorem dX7_addRosette_115 : decode cX7_addRosette 115 = .ok (.aload_n 0, 1) := by decide +kernel
theorem dX7_addRosette_116 : decode cX7_addRosette 116 = .ok (.getfield 10, 3) := by decide +kernel
theorem dX7_addRosette_119 : decode cX7_addRosette 119 = .ok (.getfield 56, 3) := by decide +kernel
theorem dX7_addRosette_122 : decode cX7_addRosette 122 = .ok (.iload 6, 2) := by decide +kernel
theorem dX7_addRosette_124 : decode cX7_addRosette 124 = .ok (.aaload, 1) := by decide +kernel
theorem dX7_addRosette_125 : decode cX7_addRosette 125 = .ok (.iload_n 1, 1) := by decide +kernel
theorem dX7_addRosette_126 : decode cX7_addRosette 126 = .ok (.iload_n 2, 1) := by decide +kernel
theorem dX7_addRosette_127 : decode cX7_addRosette 127 = .ok (.iload_n 3, 1) := by decide +kernel
theorem dX7_addRosette_128 : decode cX7_addRosette 128 = .ok (.iload 4, 2) := by decide +kernel
theorem dX7_addRosette_130 : decode cX7_addRosette 130 = .ok (.invokevirtual 72, 3) := by decide +kernel
theorem dX7_addRosette_133 : decode cX7_addRosette 133 = .ok (.aload_n 0, 1) := by decide +kernel
theorem dX7_addRosette_134 : decode cX7_addRosette 134 = .ok (.getfield 10, 3) := by decide +kernel
theorem dX7_addRosette_137 : decode cX7_addRosette 137 = .ok (.dup, 1) := by decide +kernel
theorem dX7_addRosette_138 : decode cX7_addRosette 138 = .ok (.getfield 52, 3) := by decide +kernel
theorem dX7_addRosette_141 : decode cX7_addRosette 141 = .ok (.iconst 1, 1) := by decide +kernel
theorem dX7_addRosette_142 : decode cX7_addRosette 142 = .ok (.iadd, 1) := by decide +kernel
theorem dX7_addRosette_143 : decode cX7_addRosette 143 = .ok (.putfield 52, 3) := by decide +kernel
theorem dX7_addRosette_146 : decode cX7_addRosette 146 = .ok (.iload 6, 2) := by decide +kernel
theorem dX7_addRosette_148 : decode cX7_addRosette 148 = .ok (.ireturn, 1) := by decide +kernel
theorem dX7_setStrain_0 : decode cX7_setStrain 0 = .ok (.aload_n 0, 1) := by decide +kernel
theorem dX7_setStrain_1 : decode cX7_setStrain 1 = .ok (.getfield 10, 3) := by decide +kernel
theorem dX7_setStrain_4 : decode cX7_setStrain 4 = .ok (.iload_n 1, 1) := by decide +kernel
theorem dX7_setStrain_5 : decode cX7_setStrain 5 = .ok (.invokevirtual 78, 3) := by decide +kernel
theorem dX7_setStrain_8 : decode cX7_setStrain 8 = .ok (.astore 5, 2) := by decide +kernel
theorem dX7_setStrain_10 : decode cX7_setStrain 10 = .ok (.aload 5, 2) := by decide +kernel
theorem dX7_setStrain_12 : decode cX7_setStrain 12 = .ok (.ifnonnull 6, 3) := by decide +kernel
theorem dX7_setStrain_15 : decode cX7_setStrain 15 = .ok (.ldc 82, 2) := by decide +kernel
theorem dX7_setStrain_17 : decode cX7_setStrain 17 = .ok (.ireturn, 1) := by decide +kernel
theorem dX7_setStrain_18 : decode cX7_setStrain 18 = .ok (.iload_n 2, 1) := by decide +kernel
theorem dX7_setStrain_19 : decode cX7_setStrain 19 = .ok (.sipush 5000, 3) := by decide +kernel
theorem dX7_setStrain_22 : decode cX7_setStrain 22 = .ok (.invokestatic 83, 3) := by decide +kernel
theorem dX7_setStrain_25 : decode cX7_setStrain 25 = .ok (.ifCond .eq 24, 3) := by decide +kernel
theorem dX7_setStrain_28 : decode cX7_setStrain 28 = .ok (.iload_n 3, 1) := by decide +kernel
theorem dX7_setStrain_29 : decode cX7_setStrain 29 = .ok (.sipush 5000, 3) := by decide +kernel
theorem dX7_setStrain_32 : decode cX7_setStrain 32 = .ok (.invokestatic 83, 3) := by decide +kernel
theorem dX7_setStrain_35 : decode cX7_setStrain 35 = .ok (.ifCond .eq 14, 3) := by decide +kernel
theorem dX7_setStrain_38 : decode cX7_setStrain 38 = .ok (.iload 4, 2) := by decide +kernel
theorem dX7_setStrain_40 : decode cX7_setStrain 40 = .ok (.sipush 5000, 3) := by decide +kernel
theorem dX7_setStrain_43 : decode cX7_setStrain 43 = .ok (.invokestatic 83, 3) := by decide +kernel
theorem dX7_setStrain_46 : decode cX7_setStrain 46 = .ok (.ifCond .ne 6, 3) := by decide +kernel
theorem dX7_setStrain_49 : decode cX7_setStrain 49 = .ok (.ldc 51, 2) := by decide +kernel
theorem dX7_setStrain_51 : decode cX7_setStrain 51 = .ok (.ireturn, 1) := by decide +kernel
theorem dX7_setStrain_52 : decode cX7_setStrain 52 = .ok (.aload 5, 2) := by decide +kernel
theorem dX7_setStrain_54 : decode cX7_setStrain 54 = .ok (.getfield 87, 3) := by decide +kernel
theorem dX7_setStrain_57 : decode cX7_setStrain 57 = .ok (.iload_n 2, 1) := by decide +kernel
theorem dX7_setStrain_58 : decode cX7_setStrain 58 = .ok (.if_icmp .ne 25, 3) := by decide +kernel
theorem dX7_setStrain_61 : decode cX7_setStrain 61 = .ok (.aload 5, 2) := by decide +kernel
theorem dX7_setStrain_63 : decode cX7_setStrain 63 = .ok (.getfield 90, 3) := by decide +kernel
theorem dX7_setStrain_66 : decode cX7_setStrain 66 = .ok (.iload_n 3, 1) := by decide +kernel
theorem dX7_setStrain_67 : decode cX7_setStrain 67 = .ok (.if_icmp .ne 16, 3) := by decide +kernel
theorem dX7_setStrain_70 : decode cX7_setStrain 70 = .ok (.aload 5, 2) := by decide +kernel
theorem dX7_setStrain_72 : decode cX7_setStrain 72 = .ok (.getfield 93, 3) := by decide +kernel
theorem dX7_setStrain_75 : decode cX7_setStrain 75 = .ok (.iload 4, 2) := by decide +kernel
theorem dX7_setStrain_77 : decode cX7_setStrain 77 = .ok (.if_icmp .ne 6, 3) := by decide +kernel
theorem dX7_setStrain_80 : decode cX7_setStrain 80 = .ok (.ldc 96, 2) := by decide +kernel
theorem dX7_setStrain_82 : decode cX7_setStrain 82 = .ok (.ireturn, 1) := by decide +kernel
theorem dX7_setStrain_83 : decode cX7_setStrain 83 = .ok (.aload_n 0, 1) := by decide +kernel
theorem dX7_setStrain_84 : decode cX7_setStrain 84 = .ok (.getfield 22, 3) := by decide +kernel
theorem dX7_setStrain_87 : decode cX7_setStrain 87 = .ok (.aload_n 0, 1) := by decide +kernel
theorem dX7_setStrain_88 : decode cX7_setStrain 88 = .ok (.getfield 10, 3) := by decide +kernel
theorem dX7_setStrain_91 : decode cX7_setStrain 91 = .ok (.invokevirtual 68, 3) := by decide +kernel
theorem dX7_setStrain_94 : decode cX7_setStrain 94 = .ok (.aload_n 0, 1) := by decide +kernel
theorem dX7_setStrain_95 : decode cX7_setStrain 95 = .ok (.getfield 43, 3) := by decide +kernel
theorem dX7_setStrain_98 : decode cX7_setStrain 98 = .ok (.aload 5, 2) := by decide +kernel
theorem dX7_setStrain_100 : decode cX7_setStrain 100 = .ok (.aload_n 0, 1) := by decide +kernel
theorem dX7_setStrain_101 : decode cX7_setStrain 101 = .ok (.getfield 10, 3) := by decide +kernel
theorem dX7_setStrain_104 : decode cX7_setStrain 104 = .ok (.getfield 97, 3) := by decide +kernel
theorem dX7_setStrain_107 : decode cX7_setStrain 107 = .ok (.invokevirtual 100, 3) := by decide +kernel
theorem dX7_setStrain_110 : decode cX7_setStrain 110 = .ok (.aload_n 0, 1) := by decide +kernel
theorem dX7_setStrain_111 : decode cX7_setStrain 111 = .ok (.getfield 43, 3) := by decide +kernel
theorem dX7_setStrain_114 : decode cX7_setStrain 114 = .ok (.invokevirtual 104, 3) := by decide +kernel
theorem dX7_setStrain_117 : decode cX7_setStrain 117 = .ok (.aload 5, 2) := by decide +kernel
theorem dX7_setStrain_119 : decode cX7_setStrain 119 = .ok (.iload_n 2, 1) := by decide +kernel
theorem dX7_setStrain_120 : decode cX7_setStrain 120 = .ok (.putfield 87, 3) := by decide +kernel
theorem dX7_setStrain_123 : decode cX7_setStrain 123 = .ok (.aload 5, 2) := by decide +kernel
theorem dX7_setStrain_125 : decode cX7_setStrain 125 = .ok (.iload_n 3, 1) := by decide +kernel
theorem dX7_setStrain_126 : decode cX7_setStrain 126 = .ok (.putfield 90, 3) := by decide +kernel
theorem dX7_setStrain_129 : decode cX7_setStrain 129 = .ok (.aload 5, 2) := by decide +kernel
theorem dX7_setStrain_131 : decode cX7_setStrain 131 = .ok (.iload 4, 2) := by decide +kernel
theorem dX7_setStrain_133 : decode cX7_setStrain 133 = .ok (.putfield 93, 3) := by decide +kernel
theorem dX7_setStrain_136 : decode cX7_setStrain 136 = .ok (.aload_n 0, 1) := by decide +kernel
theorem dX7_setStrain_137 : decode cX7_setStrain 137 = .ok (.getfield 43, 3) := by decide +kernel
theorem dX7_setStrain_140 : decode cX7_setStrain 140 = .ok (.aload 5, 2) := by decide +kernel
theorem dX7_setStrain_142 : decode cX7_setStrain 142 = .ok (.aload_n 0, 1) := by decide +kernel
theorem dX7_setStrain_143 : decode cX7_setStrain 143 = .ok (.getfield 10, 3) := by decide +kernel
theorem dX7_setStrain_146 : decode cX7_setStrain 146 = .ok (.getfield 97, 3) := by decide +kernel
theorem dX7_setStrain_149 : decode cX7_setStrain 149 = .ok (.invokevirtual 100, 3) := by decide +kernel
theorem dX7_setStrain_152 : decode cX7_setStrain 152 = .ok (.aload_n 0, 1) := by decide +kernel
theorem dX7_setStrain_153 : decode cX7_setStrain 153 = .ok (.getfield 43, 3) := by decide +kernel
theorem dX7_setStrain_156 : decode cX7_setStrain 156 = .ok (.invokevirtual 107, 3) := by decide +kernel
theorem dX7_setStrain_159 : decode cX7_setStrain 159 = .ok (.ireturn, 1) := by decide +kernel
theorem dX7_setLeads_0 : decode cX7_setLeads 0 = .ok (.aload_n 0, 1) := by decide +kernel
theorem dX7_setLeads_1 : decode cX7_setLeads 1 = .ok (.getfield 10, 3) := by decide +kernel
theorem dX7_setLeads_4 : decode cX7_setLeads 4 = .ok (.iload_n 1, 1) := by decide +kernel
theorem dX7_setLeads_5 : decode cX7_setLeads 5 = .ok (.invokevirtual 78, 3) := by decide +kernel
theorem dX7_setLeads_8 : decode cX7_setLeads 8 = .ok (.astore_n 3, 1) := by decide +kernel
theorem dX7_setLeads_9 : decode cX7_setLeads 9 = .ok (.aload_n 3, 1) := by decide +kernel
theorem dX7_setLeads_10 : decode cX7_setLeads 10 = .ok (.ifnonnull 6, 3) := by decide +kernel
theorem dX7_setLeads_13 : decode cX7_setLeads 13 = .ok (.ldc 82, 2) := by decide +kernel
theorem dX7_setLeads_15 : decode cX7_setLeads 15 = .ok (.ireturn, 1) := by decide +kernel
theorem dX7_setLeads_16 : decode cX7_setLeads 16 = .ok (.iload_n 2, 1) := by decide +kernel
theorem dX7_setLeads_17 : decode cX7_setLeads 17 = .ok (.iconst 0, 1) := by decide +kernel
theorem dX7_setLeads_18 : decode cX7_setLeads 18 = .ok (.sipush 20000, 3) := by decide +kernel
theorem dX7_setLeads_21 : decode cX7_setLeads 21 = .ok (.invokestatic 47, 3) := by decide +kernel
theorem dX7_setLeads_24 : decode cX7_setLeads 24 = .ok (.ifCond .ne 6, 3) := by decide +kernel
theorem dX7_setLeads_27 : decode cX7_setLeads 27 = .ok (.ldc 51, 2) := by decide +kernel
theorem dX7_setLeads_29 : decode cX7_setLeads 29 = .ok (.ireturn, 1) := by decide +kernel
theorem dX7_setLeads_30 : decode cX7_setLeads 30 = .ok (.aload_n 3, 1) := by decide +kernel
theorem dX7_setLeads_31 : decode cX7_setLeads 31 = .ok (.getfield 111, 3) := by decide +kernel
theorem dX7_setLeads_34 : decode cX7_setLeads 34 = .ok (.istore 4, 2) := by decide +kernel
theorem dX7_setLeads_36 : decode cX7_setLeads 36 = .ok (.iload 4, 2) := by decide +kernel
theorem dX7_setLeads_38 : decode cX7_setLeads 38 = .ok (.iload_n 2, 1) := by decide +kernel
theorem dX7_setLeads_39 : decode cX7_setLeads 39 = .ok (.if_icmp .ne 6, 3) := by decide +kernel
theorem dX7_setLeads_42 : decode cX7_setLeads 42 = .ok (.ldc 96, 2) := by decide +kernel
theorem dX7_setLeads_44 : decode cX7_setLeads 44 = .ok (.ireturn, 1) := by decide +kernel
theorem dX7_setLeads_45 : decode cX7_setLeads 45 = .ok (.aload_n 0, 1) := by decide +kernel
theorem dX7_setLeads_46 : decode cX7_setLeads 46 = .ok (.getfield 22, 3) := by decide +kernel
theorem dX7_setLeads_49 : decode cX7_setLeads 49 = .ok (.aload_n 0, 1) := by decide +kernel
theorem dX7_setLeads_50 : decode cX7_setLeads 50 = .ok (.getfield 10, 3) := by decide +kernel
theorem dX7_setLeads_53 : decode cX7_setLeads 53 = .ok (.invokevirtual 68, 3) := by decide +kernel
theorem dX7_setLeads_56 : decode cX7_setLeads 56 = .ok (.aload_n 3, 1) := by decide +kernel
theorem dX7_setLeads_57 : decode cX7_setLeads 57 = .ok (.iload_n 2, 1) := by decide +kernel
theorem dX7_setLeads_58 : decode cX7_setLeads 58 = .ok (.putfield 111, 3) := by decide +kernel
theorem dX7_setLeads_61 : decode cX7_setLeads 61 = .ok (.iload 4, 2) := by decide +kernel
theorem dX7_setLeads_63 : decode cX7_setLeads 63 = .ok (.ireturn, 1) := by decide +kernel
theorem dX7_setOffset_0 : decode cX7_setOffset 0 = .ok (.aload_n 0, 1) := by decide +kernel
theorem dX7_setOffset_1 : decode cX7_setOffset 1 = .ok (.getfield 10, 3) := by decide +kernel
theorem dX7_setOffset_4 : decode cX7_setOffset 4 = .ok (.iload_n 1, 1) := by decide +kernel
theorem dX7_setOffset_5 : decode cX7_setOffset 5 = .ok (.invokevirtual 78, 3) := by decide +kernel
theorem dX7_setOffset_8 : decode cX7_setOffset 8 = .ok (.astore 4, 2) := by decide +kernel
theorem dX7_setOffset_10 : decode cX7_setOffset 10 = .ok (.aload 4, 2) := by decide +kernel
theorem dX7_setOffset_12 : decode cX7_setOffset 12 = .ok (.ifnull 17, 3) := by decide +kernel
theorem dX7_setOffset_15 : decode cX7_setOffset 15 = .ok (.iload_n 2, 1) := by decide +kernel
theorem dX7_setOffset_16 : decode cX7_setOffset 16 = .ok (.ifCond .lt 13, 3) := by decide +kernel
theorem dX7_setOffset_19 : decode cX7_setOffset 19 = .ok (.iload_n 2, 1) := by decide +kernel
theorem dX7_setOffset_20 : decode cX7_setOffset 20 = .ok (.aload 4, 2) := by decide +kernel
theorem dX7_setOffset_22 : decode cX7_setOffset 22 = .ok (.getfield 114, 3) := by decide +kernel
theorem dX7_setOffset_25 : decode cX7_setOffset 25 = .ok (.arraylength, 1) := by decide +kernel
theorem dX7_setOffset_26 : decode cX7_setOffset 26 = .ok (.if_icmp .lt 6, 3) := by decide +kernel
theorem dX7_setOffset_29 : decode cX7_setOffset 29 = .ok (.ldc 82, 2) := by decide +kernel
theorem dX7_setOffset_31 : decode cX7_setOffset 31 = .ok (.ireturn, 1) := by decide +kernel
theorem dX7_setOffset_32 : decode cX7_setOffset 32 = .ok (.iload_n 3, 1) := by decide +kernel
theorem dX7_setOffset_33 : decode cX7_setOffset 33 = .ok (.sipush 9999, 3) := by decide +kernel
theorem dX7_setOffset_36 : decode cX7_setOffset 36 = .ok (.invokestatic 83, 3) := by decide +kernel
theorem dX7_setOffset_39 : decode cX7_setOffset 39 = .ok (.ifCond .ne 6, 3) := by decide +kernel
theorem dX7_setOffset_42 : decode cX7_setOffset 42 = .ok (.ldc 51, 2) := by decide +kernel
theorem dX7_setOffset_44 : decode cX7_setOffset 44 = .ok (.ireturn, 1) := by decide +kernel
theorem dX7_setOffset_45 : decode cX7_setOffset 45 = .ok (.aload 4, 2) := by decide +kernel
theorem dX7_setOffset_47 : decode cX7_setOffset 47 = .ok (.getfield 114, 3) := by decide +kernel
theorem dX7_setOffset_50 : decode cX7_setOffset 50 = .ok (.iload_n 2, 1) := by decide +kernel
theorem dX7_setOffset_51 : decode cX7_setOffset 51 = .ok (.iaload, 1) := by decide +kernel
theorem dX7_setOffset_52 : decode cX7_setOffset 52 = .ok (.istore 5, 2) := by decide +kernel
theorem dX7_setOffset_54 : decode cX7_setOffset 54 = .ok (.iload 5, 2) := by decide +kernel
theorem dX7_setOffset_56 : decode cX7_setOffset 56 = .ok (.iload_n 3, 1) := by decide +kernel
theorem dX7_setOffset_57 : decode cX7_setOffset 57 = .ok (.if_icmp .ne 6, 3) := by decide +kernel
theorem dX7_setOffset_60 : decode cX7_setOffset 60 = .ok (.ldc 96, 2) := by decide +kernel
theorem dX7_setOffset_62 : decode cX7_setOffset 62 = .ok (.ireturn, 1) := by decide +kernel
theorem dX7_setOffset_63 : decode cX7_setOffset 63 = .ok (.aload_n 0, 1) := by decide +kernel
theorem dX7_setOffset_64 : decode cX7_setOffset 64 = .ok (.getfield 22, 3) := by decide +kernel
theorem dX7_setOffset_67 : decode cX7_setOffset 67 = .ok (.aload_n 0, 1) := by decide +kernel
theorem dX7_setOffset_68 : decode cX7_setOffset 68 = .ok (.getfield 10, 3) := by decide +kernel
theorem dX7_setOffset_71 : decode cX7_setOffset 71 = .ok (.invokevirtual 68, 3) := by decide +kernel
theorem dX7_setOffset_74 : decode cX7_setOffset 74 = .ok (.aload 4, 2) := by decide +kernel
theorem dX7_setOffset_76 : decode cX7_setOffset 76 = .ok (.getfield 114, 3) := by decide +kernel
theorem dX7_setOffset_79 : decode cX7_setOffset 79 = .ok (.iload_n 2, 1) := by decide +kernel
theorem dX7_setOffset_80 : decode cX7_setOffset 80 = .ok (.iload_n 3, 1) := by decide +kernel
theorem dX7_setOffset_81 : decode cX7_setOffset 81 = .ok (.iastore, 1) := by decide +kernel
theorem dX7_setOffset_82 : decode cX7_setOffset 82 = .ok (.iload 5, 2) := by decide +kernel
theorem dX7_setOffset_84 : decode cX7_setOffset 84 = .ok (.ireturn, 1) := by decide +kernel
theorem dX7_setShunt_0 : decode cX7_setShunt 0 = .ok (.aload_n 0, 1) := by decide +kernel
theorem dX7_setShunt_1 : decode cX7_setShunt 1 = .ok (.getfield 10, 3) := by decide +kernel
theorem dX7_setShunt_4 : decode cX7_setShunt 4 = .ok (.iload_n 1, 1) := by decide +kernel
theorem dX7_setShunt_5 : decode cX7_setShunt 5 = .ok (.invokevirtual 78, 3) := by decide +kernel
theorem dX7_setShunt_8 : decode cX7_setShunt 8 = .ok (.astore_n 3, 1) := by decide +kernel
theorem dX7_setShunt_9 : decode cX7_setShunt 9 = .ok (.aload_n 3, 1) := by decide +kernel
theorem dX7_setShunt_10 : decode cX7_setShunt 10 = .ok (.ifnonnull 6, 3) := by decide +kernel
theorem dX7_setShunt_13 : decode cX7_setShunt 13 = .ok (.ldc 82, 2) := by decide +kernel
theorem dX7_setShunt_15 : decode cX7_setShunt 15 = .ok (.ireturn, 1) := by decide +kernel
theorem dX7_setShunt_16 : decode cX7_setShunt 16 = .ok (.aload_n 3, 1) := by decide +kernel
theorem dX7_setShunt_17 : decode cX7_setShunt 17 = .ok (.getfield 118, 3) := by decide +kernel
theorem dX7_setShunt_20 : decode cX7_setShunt 20 = .ok (.iload_n 2, 1) := by decide +kernel
theorem dX7_setShunt_21 : decode cX7_setShunt 21 = .ok (.if_icmp .ne 6, 3) := by decide +kernel
theorem dX7_setShunt_24 : decode cX7_setShunt 24 = .ok (.ldc 96, 2) := by decide +kernel
theorem dX7_setShunt_26 : decode cX7_setShunt 26 = .ok (.ireturn, 1) := by decide +kernel
theorem dX7_setShunt_27 : decode cX7_setShunt 27 = .ok (.aload_n 0, 1) := by decide +kernel
theorem dX7_setShunt_28 : decode cX7_setShunt 28 = .ok (.getfield 22, 3) := by decide +kernel
theorem dX7_setShunt_31 : decode cX7_setShunt 31 = .ok (.aload_n 0, 1) := by decide +kernel
theorem dX7_setShunt_32 : decode cX7_setShunt 32 = .ok (.getfield 10, 3) := by decide +kernel
theorem dX7_setShunt_35 : decode cX7_setShunt 35 = .ok (.invokevirtual 68, 3) := by decide +kernel
theorem dX7_setShunt_38 : decode cX7_setShunt 38 = .ok (.aload_n 3, 1) := by decide +kernel
theorem dX7_setShunt_39 : decode cX7_setShunt 39 = .ok (.iload_n 2, 1) := by decide +kernel
theorem dX7_setShunt_40 : decode cX7_setShunt 40 = .ok (.putfield 118, 3) := by decide +kernel
theorem dX7_setShunt_43 : decode cX7_setShunt 43 = .ok (.aload_n 0, 1) := by decide +kernel
theorem dX7_setShunt_44 : decode cX7_setShunt 44 = .ok (.getfield 43, 3) := by decide +kernel
theorem dX7_setShunt_47 : decode cX7_setShunt 47 = .ok (.aload_n 3, 1) := by decide +kernel
theorem dX7_setShunt_48 : decode cX7_setShunt 48 = .ok (.aload_n 0, 1) := by decide +kernel
theorem dX7_setShunt_49 : decode cX7_setShunt 49 = .ok (.getfield 10, 3) := by decide +kernel
theorem dX7_setShunt_52 : decode cX7_setShunt 52 = .ok (.getfield 97, 3) := by decide +kernel
theorem dX7_setShunt_55 : decode cX7_setShunt 55 = .ok (.invokevirtual 100, 3) := by decide +kernel
theorem dX7_setShunt_58 : decode cX7_setShunt 58 = .ok (.aload_n 0, 1) := by decide +kernel
theorem dX7_setShunt_59 : decode cX7_setShunt 59 = .ok (.getfield 43, 3) := by decide +kernel
theorem dX7_setShunt_62 : decode cX7_setShunt 62 = .ok (.getfield 122, 3) := by decide +kernel
theorem dX7_setShunt_65 : decode cX7_setShunt 65 = .ok (.iconst 0, 1) := by decide +kernel
theorem dX7_setShunt_66 : decode cX7_setShunt 66 = .ok (.iaload, 1) := by decide +kernel
theorem dX7_setShunt_67 : decode cX7_setShunt 67 = .ok (.ireturn, 1) := by decide +kernel
theorem dX7_setSize_0 : decode cX7_setSize 0 = .ok (.iload_n 1, 1) := by decide +kernel
theorem dX7_setSize_1 : decode cX7_setSize 1 = .ok (.bipush 20, 2) := by decide +kernel
theorem dX7_setSize_3 : decode cX7_setSize 3 = .ok (.sipush 500, 3) := by decide +kernel
theorem dX7_setSize_6 : decode cX7_setSize 6 = .ok (.invokestatic 47, 3) := by decide +kernel
theorem dX7_setSize_9 : decode cX7_setSize 9 = .ok (.ifCond .ne 6, 3) := by decide +kernel
theorem dX7_setSize_12 : decode cX7_setSize 12 = .ok (.ldc 51, 2) := by decide +kernel
theorem dX7_setSize_14 : decode cX7_setSize 14 = .ok (.ireturn, 1) := by decide +kernel
theorem dX7_setSize_15 : decode cX7_setSize 15 = .ok (.aload_n 0, 1) := by decide +kernel
theorem dX7_setSize_16 : decode cX7_setSize 16 = .ok (.getfield 10, 3) := by decide +kernel
theorem dX7_setSize_19 : decode cX7_setSize 19 = .ok (.getfield 97, 3) := by decide +kernel
theorem dX7_setSize_22 : decode cX7_setSize 22 = .ok (.istore_n 2, 1) := by decide +kernel
theorem dX7_setSize_23 : decode cX7_setSize 23 = .ok (.iload_n 2, 1) := by decide +kernel
theorem dX7_setSize_24 : decode cX7_setSize 24 = .ok (.iload_n 1, 1) := by decide +kernel
theorem dX7_setSize_25 : decode cX7_setSize 25 = .ok (.if_icmp .ne 6, 3) := by decide +kernel
theorem dX7_setSize_28 : decode cX7_setSize 28 = .ok (.ldc 96, 2) := by decide +kernel
theorem dX7_setSize_30 : decode cX7_setSize 30 = .ok (.ireturn, 1) := by decide +kernel
theorem dX7_setSize_31 : decode cX7_setSize 31 = .ok (.aload_n 0, 1) := by decide +kernel
theorem dX7_setSize_32 : decode cX7_setSize 32 = .ok (.getfield 22, 3) := by decide +kernel
theorem dX7_setSize_35 : decode cX7_setSize 35 = .ok (.aload_n 0, 1) := by decide +kernel
theorem dX7_setSize_36 : decode cX7_setSize 36 = .ok (.getfield 10, 3) := by decide +kernel
theorem dX7_setSize_39 : decode cX7_setSize 39 = .ok (.invokevirtual 68, 3) := by decide +kernel
theorem dX7_setSize_42 : decode cX7_setSize 42 = .ok (.aload_n 0, 1) := by decide +kernel
theorem dX7_setSize_43 : decode cX7_setSize 43 = .ok (.getfield 10, 3) := by decide +kernel
theorem dX7_setSize_46 : decode cX7_setSize 46 = .ok (.iload_n 1, 1) := by decide +kernel
theorem dX7_setSize_47 : decode cX7_setSize 47 = .ok (.putfield 97, 3) := by decide +kernel
theorem dX7_setSize_50 : decode cX7_setSize 50 = .ok (.iload_n 2, 1) := by decide +kernel
theorem dX7_setSize_51 : decode cX7_setSize 51 = .ok (.ireturn, 1) := by decide +kernel
theorem dX7_request_0 : decode cX7_request 0 = .ok (.aload_n 0, 1) := by decide +kernel
theorem dX7_request_1 : decode cX7_request 1 = .ok (.getfield 10, 3) := by decide +kernel
theorem dX7_request_4 : decode cX7_request 4 = .ok (.iload_n 2, 1) := by decide +kernel
theorem dX7_request_5 : decode cX7_request 5 = .ok (.invokevirtual 78, 3) := by decide +kernel
theorem dX7_request_8 : decode cX7_request 8 = .ok (.ifnonnull 6, 3) := by decide +kernel
theorem dX7_request_11 : decode cX7_request 11 = .ok (.ldc 82, 2) := by decide +kernel
theorem dX7_request_13 : decode cX7_request 13 = .ok (.ireturn, 1) := by decide +kernel
theorem dX7_request_14 : decode cX7_request 14 = .ok (.iload_n 1, 1) := by decide +kernel
theorem dX7_request_15 : decode cX7_request 15 = .ok (.iconst 0, 1) := by decide +kernel
theorem dX7_request_16 : decode cX7_request 16 = .ok (.iconst 2, 1) := by decide +kernel
theorem dX7_request_17 : decode cX7_request 17 = .ok (.invokestatic 47, 3) := by decide +kernel
theorem dX7_request_20 : decode cX7_request 20 = .ok (.ifCond .eq 13, 3) := by decide +kernel
theorem dX7_request_23 : decode cX7_request 23 = .ok (.iload_n 3, 1) := by decide +kernel
theorem dX7_request_24 : decode cX7_request 24 = .ok (.iconst 0, 1) := by decide +kernel
theorem dX7_request_25 : decode cX7_request 25 = .ok (.bipush 9, 2) := by decide +kernel
theorem dX7_request_27 : decode cX7_request 27 = .ok (.invokestatic 47, 3) := by decide +kernel
theorem dX7_request_30 : decode cX7_request 30 = .ok (.ifCond .ne 6, 3) := by decide +kernel
theorem dX7_request_33 : decode cX7_request 33 = .ok (.ldc 51, 2) := by decide +kernel
theorem dX7_request_35 : decode cX7_request 35 = .ok (.ireturn, 1) := by decide +kernel
theorem dX7_request_36 : decode cX7_request 36 = .ok (.aload_n 0, 1) := by decide +kernel
theorem dX7_request_37 : decode cX7_request 37 = .ok (.getfield 10, 3) := by decide +kernel
theorem dX7_request_40 : decode cX7_request 40 = .ok (.getfield 125, 3) := by decide +kernel
theorem dX7_request_43 : decode cX7_request 43 = .ok (.getfield 129, 3) := by decide +kernel
theorem dX7_request_46 : decode cX7_request 46 = .ok (.bipush 20, 2) := by decide +kernel
theorem dX7_request_48 : decode cX7_request 48 = .ok (.if_icmp .lt 9, 3) := by decide +kernel
theorem dX7_request_51 : decode cX7_request 51 = .ok (.aload_n 0, 1) := by decide +kernel
theorem dX7_request_52 : decode cX7_request 52 = .ok (.iconst 1, 1) := by decide +kernel
theorem dX7_request_53 : decode cX7_request 53 = .ok (.invokevirtual 60, 3) := by decide +kernel
theorem dX7_request_56 : decode cX7_request 56 = .ok (.ireturn, 1) := by decide +kernel
theorem dX7_request_57 : decode cX7_request 57 = .ok (.aload_n 0, 1) := by decide +kernel
theorem dX7_request_58 : decode cX7_request 58 = .ok (.getfield 22, 3) := by decide +kernel
theorem dX7_request_61 : decode cX7_request 61 = .ok (.aload_n 0, 1) := by decide +kernel
theorem dX7_request_62 : decode cX7_request 62 = .ok (.getfield 10, 3) := by decide +kernel
theorem dX7_request_65 : decode cX7_request 65 = .ok (.invokevirtual 68, 3) := by decide +kernel
theorem dX7_request_68 : decode cX7_request 68 = .ok (.aload_n 0, 1) := by decide +kernel
theorem dX7_request_69 : decode cX7_request 69 = .ok (.getfield 10, 3) := by decide +kernel
theorem dX7_request_72 : decode cX7_request 72 = .ok (.iload_n 1, 1) := by decide +kernel
theorem dX7_request_73 : decode cX7_request 73 = .ok (.iload_n 2, 1) := by decide +kernel
theorem dX7_request_74 : decode cX7_request 74 = .ok (.iload_n 3, 1) := by decide +kernel
theorem dX7_request_75 : decode cX7_request 75 = .ok (.invokevirtual 134, 3) := by decide +kernel
theorem dX7_request_78 : decode cX7_request 78 = .ok (.ireturn, 1) := by decide +kernel
theorem dX7_cancel_0 : decode cX7_cancel 0 = .ok (.aload_n 0, 1) := by decide +kernel
theorem dX7_cancel_1 : decode cX7_cancel 1 = .ok (.getfield 10, 3) := by decide +kernel
theorem dX7_cancel_4 : decode cX7_cancel 4 = .ok (.iload_n 1, 1) := by decide +kernel
theorem dX7_cancel_5 : decode cX7_cancel 5 = .ok (.invokevirtual 78, 3) := by decide +kernel
theorem dX7_cancel_8 : decode cX7_cancel 8 = .ok (.ifnonnull 6, 3) := by decide +kernel
theorem dX7_cancel_11 : decode cX7_cancel 11 = .ok (.ldc 82, 2) := by decide +kernel
theorem dX7_cancel_13 : decode cX7_cancel 13 = .ok (.ireturn, 1) := by decide +kernel
theorem dX7_cancel_14 : decode cX7_cancel 14 = .ok (.aload_n 0, 1) := by decide +kernel
theorem dX7_cancel_15 : decode cX7_cancel 15 = .ok (.getfield 10, 3) := by decide +kernel
theorem dX7_cancel_18 : decode cX7_cancel 18 = .ok (.iload_n 1, 1) := by decide +kernel
theorem dX7_cancel_19 : decode cX7_cancel 19 = .ok (.invokevirtual 138, 3) := by decide +kernel
theorem dX7_cancel_22 : decode cX7_cancel 22 = .ok (.istore_n 2, 1) := by decide +kernel
theorem dX7_cancel_23 : decode cX7_cancel 23 = .ok (.iload_n 2, 1) := by decide +kernel
theorem dX7_cancel_24 : decode cX7_cancel 24 = .ok (.ifCond .ne 6, 3) := by decide +kernel
theorem dX7_cancel_27 : decode cX7_cancel 27 = .ok (.ldc 96, 2) := by decide +kernel
theorem dX7_cancel_29 : decode cX7_cancel 29 = .ok (.ireturn, 1) := by decide +kernel
theorem dX7_cancel_30 : decode cX7_cancel 30 = .ok (.aload_n 0, 1) := by decide +kernel
theorem dX7_cancel_31 : decode cX7_cancel 31 = .ok (.getfield 22, 3) := by decide +kernel
theorem dX7_cancel_34 : decode cX7_cancel 34 = .ok (.aload_n 0, 1) := by decide +kernel
theorem dX7_cancel_35 : decode cX7_cancel 35 = .ok (.getfield 10, 3) := by decide +kernel
theorem dX7_cancel_38 : decode cX7_cancel 38 = .ok (.invokevirtual 68, 3) := by decide +kernel
theorem dX7_cancel_41 : decode cX7_cancel 41 = .ok (.aload_n 0, 1) := by decide +kernel
theorem dX7_cancel_42 : decode cX7_cancel 42 = .ok (.getfield 10, 3) := by decide +kernel
theorem dX7_cancel_45 : decode cX7_cancel 45 = .ok (.iload_n 1, 1) := by decide +kernel
theorem dX7_cancel_46 : decode cX7_cancel 46 = .ok (.invokevirtual 141, 3) := by decide +kernel
theorem dX7_cancel_49 : decode cX7_cancel 49 = .ok (.iload_n 2, 1) := by decide +kernel
theorem dX7_cancel_50 : decode cX7_cancel 50 = .ok (.ireturn, 1) := by decide +kernel
theorem dX7_next_0 : decode cX7_next 0 = .ok (.aload_n 0, 1) := by decide +kernel
theorem dX7_next_1 : decode cX7_next 1 = .ok (.getfield 10, 3) := by decide +kernel
theorem dX7_next_4 : decode cX7_next 4 = .ok (.getfield 125, 3) := by decide +kernel
theorem dX7_next_7 : decode cX7_next 7 = .ok (.getfield 129, 3) := by decide +kernel
theorem dX7_next_10 : decode cX7_next 10 = .ok (.ifCond .ne 6, 3) := by decide +kernel
theorem dX7_next_13 : decode cX7_next 13 = .ok (.ldc 96, 2) := by decide +kernel
theorem dX7_next_15 : decode cX7_next 15 = .ok (.ireturn, 1) := by decide +kernel
theorem dX7_next_16 : decode cX7_next 16 = .ok (.aload_n 0, 1) := by decide +kernel
theorem dX7_next_17 : decode cX7_next 17 = .ok (.getfield 22, 3) := by decide +kernel
theorem dX7_next_20 : decode cX7_next 20 = .ok (.aload_n 0, 1) := by decide +kernel
theorem dX7_next_21 : decode cX7_next 21 = .ok (.getfield 10, 3) := by decide +kernel
theorem dX7_next_24 : decode cX7_next 24 = .ok (.invokevirtual 68, 3) := by decide +kernel
theorem dX7_next_27 : decode cX7_next 27 = .ok (.aload_n 0, 1) := by decide +kernel
theorem dX7_next_28 : decode cX7_next 28 = .ok (.getfield 36, 3) := by decide +kernel
theorem dX7_next_31 : decode cX7_next 31 = .ok (.aload_n 0, 1) := by decide +kernel
theorem dX7_next_32 : decode cX7_next 32 = .ok (.getfield 10, 3) := by decide +kernel
theorem dX7_next_35 : decode cX7_next 35 = .ok (.invokevirtual 145, 3) := by decide +kernel
theorem dX7_next_38 : decode cX7_next 38 = .ok (.aload_n 0, 1) := by decide +kernel
theorem dX7_next_39 : decode cX7_next 39 = .ok (.getfield 36, 3) := by decide +kernel
theorem dX7_next_42 : decode cX7_next 42 = .ok (.aload_n 0, 1) := by decide +kernel
theorem dX7_next_43 : decode cX7_next 43 = .ok (.getfield 10, 3) := by decide +kernel
theorem dX7_next_46 : decode cX7_next 46 = .ok (.invokevirtual 147, 3) := by decide +kernel
theorem dX7_next_49 : decode cX7_next 49 = .ok (.aload_n 0, 1) := by decide +kernel
theorem dX7_next_50 : decode cX7_next 50 = .ok (.getfield 10, 3) := by decide +kernel
theorem dX7_next_53 : decode cX7_next 53 = .ok (.getfield 125, 3) := by decide +kernel
theorem dX7_next_56 : decode cX7_next 56 = .ok (.aload_n 0, 1) := by decide +kernel
theorem dX7_next_57 : decode cX7_next 57 = .ok (.getfield 36, 3) := by decide +kernel
theorem dX7_next_60 : decode cX7_next 60 = .ok (.getfield 150, 3) := by decide +kernel
theorem dX7_next_63 : decode cX7_next 63 = .ok (.iconst 0, 1) := by decide +kernel
theorem dX7_next_64 : decode cX7_next 64 = .ok (.invokevirtual 153, 3) := by decide +kernel
theorem dX7_next_67 : decode cX7_next 67 = .ok (.istore_n 1, 1) := by decide +kernel
theorem dX7_next_68 : decode cX7_next 68 = .ok (.aload_n 0, 1) := by decide +kernel
theorem dX7_next_69 : decode cX7_next 69 = .ok (.aload_n 0, 1) := by decide +kernel
theorem dX7_next_70 : decode cX7_next 70 = .ok (.getfield 36, 3) := by decide +kernel
theorem dX7_next_73 : decode cX7_next 73 = .ok (.getfield 150, 3) := by decide +kernel
theorem dX7_next_76 : decode cX7_next 76 = .ok (.invokevirtual 157, 3) := by decide +kernel
theorem dX7_next_79 : decode cX7_next 79 = .ok (.iload_n 1, 1) := by decide +kernel
theorem dX7_next_80 : decode cX7_next 80 = .ok (.ireturn, 1) := by decide +kernel
theorem dX7_workOff_0 : decode cX7_workOff 0 = .ok (.aload_n 0, 1) := by decide +kernel
theorem dX7_workOff_1 : decode cX7_workOff 1 = .ok (.getfield 10, 3) := by decide +kernel
theorem dX7_workOff_4 : decode cX7_workOff 4 = .ok (.getfield 125, 3) := by decide +kernel
theorem dX7_workOff_7 : decode cX7_workOff 7 = .ok (.getfield 129, 3) := by decide +kernel
theorem dX7_workOff_10 : decode cX7_workOff 10 = .ok (.istore_n 1, 1) := by decide +kernel
theorem dX7_workOff_11 : decode cX7_workOff 11 = .ok (.iload_n 1, 1) := by decide +kernel
theorem dX7_workOff_12 : decode cX7_workOff 12 = .ok (.ifCond .ne 6, 3) := by decide +kernel
theorem dX7_workOff_15 : decode cX7_workOff 15 = .ok (.ldc 96, 2) := by decide +kernel
theorem dX7_workOff_17 : decode cX7_workOff 17 = .ok (.ireturn, 1) := by decide +kernel
theorem dX7_workOff_18 : decode cX7_workOff 18 = .ok (.aload_n 0, 1) := by decide +kernel
theorem dX7_workOff_19 : decode cX7_workOff 19 = .ok (.getfield 22, 3) := by decide +kernel
theorem dX7_workOff_22 : decode cX7_workOff 22 = .ok (.aload_n 0, 1) := by decide +kernel
theorem dX7_workOff_23 : decode cX7_workOff 23 = .ok (.getfield 10, 3) := by decide +kernel
theorem dX7_workOff_26 : decode cX7_workOff 26 = .ok (.invokevirtual 68, 3) := by decide +kernel
theorem dX7_workOff_29 : decode cX7_workOff 29 = .ok (.aload_n 0, 1) := by decide +kernel
theorem dX7_workOff_30 : decode cX7_workOff 30 = .ok (.getfield 10, 3) := by decide +kernel
theorem dX7_workOff_33 : decode cX7_workOff 33 = .ok (.getfield 160, 3) := by decide +kernel
theorem dX7_workOff_36 : decode cX7_workOff 36 = .ok (.istore_n 2, 1) := by decide +kernel
theorem dX7_workOff_37 : decode cX7_workOff 37 = .ok (.iconst 0, 1) := by decide +kernel
theorem dX7_workOff_38 : decode cX7_workOff 38 = .ok (.istore_n 3, 1) := by decide +kernel
theorem dX7_workOff_39 : decode cX7_workOff 39 = .ok (.iload_n 3, 1) := by decide +kernel
theorem dX7_workOff_40 : decode cX7_workOff 40 = .ok (.iload_n 1, 1) := by decide +kernel
theorem dX7_workOff_41 : decode cX7_workOff 41 = .ok (.if_icmp .ge 42, 3) := by decide +kernel
theorem dX7_workOff_44 : decode cX7_workOff 44 = .ok (.aload_n 0, 1) := by decide +kernel
theorem dX7_workOff_45 : decode cX7_workOff 45 = .ok (.getfield 36, 3) := by decide +kernel
theorem dX7_workOff_48 : decode cX7_workOff 48 = .ok (.aload_n 0, 1) := by decide +kernel
theorem dX7_workOff_49 : decode cX7_workOff 49 = .ok (.getfield 10, 3) := by decide +kernel
theorem dX7_workOff_52 : decode cX7_workOff 52 = .ok (.invokevirtual 145, 3) := by decide +kernel
theorem dX7_workOff_55 : decode cX7_workOff 55 = .ok (.aload_n 0, 1) := by decide +kernel
theorem dX7_workOff_56 : decode cX7_workOff 56 = .ok (.getfield 36, 3) := by decide +kernel
theorem dX7_workOff_59 : decode cX7_workOff 59 = .ok (.aload_n 0, 1) := by decide +kernel
theorem dX7_workOff_60 : decode cX7_workOff 60 = .ok (.getfield 10, 3) := by decide +kernel
theorem dX7_workOff_63 : decode cX7_workOff 63 = .ok (.invokevirtual 147, 3) := by decide +kernel
theorem dX7_workOff_66 : decode cX7_workOff 66 = .ok (.aload_n 0, 1) := by decide +kernel
theorem dX7_workOff_67 : decode cX7_workOff 67 = .ok (.aload_n 0, 1) := by decide +kernel
theorem dX7_workOff_68 : decode cX7_workOff 68 = .ok (.getfield 36, 3) := by decide +kernel
theorem dX7_workOff_71 : decode cX7_workOff 71 = .ok (.getfield 150, 3) := by decide +kernel
theorem dX7_workOff_74 : decode cX7_workOff 74 = .ok (.invokevirtual 157, 3) := by decide +kernel
theorem dX7_workOff_77 : decode cX7_workOff 77 = .ok (.iinc 3 1, 3) := by decide +kernel
theorem dX7_workOff_80 : decode cX7_workOff 80 = .ok (.goto (-41), 3) := by decide +kernel
theorem dX7_workOff_83 : decode cX7_workOff 83 = .ok (.iload_n 1, 1) := by decide +kernel
theorem dX7_workOff_84 : decode cX7_workOff 84 = .ok (.aload_n 0, 1) := by decide +kernel
theorem dX7_workOff_85 : decode cX7_workOff 85 = .ok (.getfield 10, 3) := by decide +kernel
theorem dX7_workOff_88 : decode cX7_workOff 88 = .ok (.getfield 160, 3) := by decide +kernel
theorem dX7_workOff_91 : decode cX7_workOff 91 = .ok (.iload_n 2, 1) := by decide +kernel
theorem dX7_workOff_92 : decode cX7_workOff 92 = .ok (.isub, 1) := by decide +kernel
theorem dX7_workOff_93 : decode cX7_workOff 93 = .ok (.isub, 1) := by decide +kernel
theorem dX7_workOff_94 : decode cX7_workOff 94 = .ok (.ireturn, 1) := by decide +kernel
theorem dX7_type_0 : decode cX7_type 0 = .ok (.aload_n 0, 1) := by decide +kernel
theorem dX7_type_1 : decode cX7_type 1 = .ok (.getfield 29, 3) := by decide +kernel
theorem dX7_type_4 : decode cX7_type 4 = .ok (.iload_n 1, 1) := by decide +kernel
theorem dX7_type_5 : decode cX7_type 5 = .ok (.invokevirtual 163, 3) := by decide +kernel
theorem dX7_type_8 : decode cX7_type 8 = .ok (.ifCond .eq 13, 3) := by decide +kernel
theorem dX7_type_11 : decode cX7_type 11 = .ok (.aload_n 0, 1) := by decide +kernel
theorem dX7_type_12 : decode cX7_type 12 = .ok (.getfield 29, 3) := by decide +kernel
theorem dX7_type_15 : decode cX7_type 15 = .ok (.getfield 167, 3) := by decide +kernel
theorem dX7_type_18 : decode cX7_type 18 = .ok (.goto 8, 3) := by decide +kernel
theorem dX7_type_21 : decode cX7_type 21 = .ok (.aload_n 0, 1) := by decide +kernel
theorem dX7_type_22 : decode cX7_type 22 = .ok (.iconst 1, 1) := by decide +kernel
theorem dX7_type_23 : decode cX7_type 23 = .ok (.invokevirtual 60, 3) := by decide +kernel
theorem dX7_type_26 : decode cX7_type 26 = .ok (.ireturn, 1) := by decide +kernel
theorem dX7_clearText_0 : decode cX7_clearText 0 = .ok (.aload_n 0, 1) := by decide +kernel
theorem dX7_clearText_1 : decode cX7_clearText 1 = .ok (.getfield 29, 3) := by decide +kernel
theorem dX7_clearText_4 : decode cX7_clearText 4 = .ok (.getfield 167, 3) := by decide +kernel
theorem dX7_clearText_7 : decode cX7_clearText 7 = .ok (.istore_n 1, 1) := by decide +kernel
theorem dX7_clearText_8 : decode cX7_clearText 8 = .ok (.aload_n 0, 1) := by decide +kernel
theorem dX7_clearText_9 : decode cX7_clearText 9 = .ok (.getfield 29, 3) := by decide +kernel
theorem dX7_clearText_12 : decode cX7_clearText 12 = .ok (.iconst 0, 1) := by decide +kernel
theorem dX7_clearText_13 : decode cX7_clearText 13 = .ok (.putfield 167, 3) := by decide +kernel
theorem dX7_clearText_16 : decode cX7_clearText 16 = .ok (.iload_n 1, 1) := by decide +kernel
theorem dX7_clearText_17 : decode cX7_clearText 17 = .ok (.ireturn, 1) := by decide +kernel
theorem dX7_readJobs_0 : decode cX7_readJobs 0 = .ok (.aload_n 0, 1) := by decide +kernel
theorem dX7_readJobs_1 : decode cX7_readJobs 1 = .ok (.getfield 29, 3) := by decide +kernel
theorem dX7_readJobs_4 : decode cX7_readJobs 4 = .ok (.invokevirtual 170, 3) := by decide +kernel
theorem dX7_readJobs_7 : decode cX7_readJobs 7 = .ok (.istore_n 1, 1) := by decide +kernel
theorem dX7_readJobs_8 : decode cX7_readJobs 8 = .ok (.iload_n 1, 1) := by decide +kernel
theorem dX7_readJobs_9 : decode cX7_readJobs 9 = .ok (.iconst (-1), 1) := by decide +kernel
theorem dX7_readJobs_10 : decode cX7_readJobs 10 = .ok (.if_icmp .eq 8, 3) := by decide +kernel
theorem dX7_readJobs_13 : decode cX7_readJobs 13 = .ok (.bipush (-100), 2) := by decide +kernel
theorem dX7_readJobs_15 : decode cX7_readJobs 15 = .ok (.iload_n 1, 1) := by decide +kernel
theorem dX7_readJobs_16 : decode cX7_readJobs 16 = .ok (.isub, 1) := by decide +kernel
theorem dX7_readJobs_17 : decode cX7_readJobs 17 = .ok (.ireturn, 1) := by decide +kernel
theorem dX7_readJobs_18 : decode cX7_readJobs 18 = .ok (.aload_n 0, 1) := by decide +kernel
theorem dX7_readJobs_19 : decode cX7_readJobs 19 = .ok (.getfield 29, 3) := by decide +kernel
theorem dX7_readJobs_22 : decode cX7_readJobs 22 = .ok (.getfield 173, 3) := by decide +kernel
theorem dX7_readJobs_25 : decode cX7_readJobs 25 = .ok (.astore_n 2, 1) := by decide +kernel
theorem dX7_readJobs_26 : decode cX7_readJobs 26 = .ok (.iconst 0, 1) := by decide +kernel
theorem dX7_readJobs_27 : decode cX7_readJobs 27 = .ok (.istore_n 3, 1) := by decide +kernel
theorem dX7_readJobs_28 : decode cX7_readJobs 28 = .ok (.iload_n 3, 1) := by decide +kernel
theorem dX7_readJobs_29 : decode cX7_readJobs 29 = .ok (.aload_n 2, 1) := by decide +kernel
theorem dX7_readJobs_30 : decode cX7_readJobs 30 = .ok (.getfield 129, 3) := by decide +kernel
theorem dX7_readJobs_33 : decode cX7_readJobs 33 = .ok (.if_icmp .ge 28, 3) := by decide +kernel
theorem dX7_readJobs_36 : decode cX7_readJobs 36 = .ok (.aload_n 0, 1) := by decide +kernel
theorem dX7_readJobs_37 : decode cX7_readJobs 37 = .ok (.getfield 10, 3) := by decide +kernel
theorem dX7_readJobs_40 : decode cX7_readJobs 40 = .ok (.aload_n 2, 1) := by decide +kernel
theorem dX7_readJobs_41 : decode cX7_readJobs 41 = .ok (.iload_n 3, 1) := by decide +kernel
theorem dX7_readJobs_42 : decode cX7_readJobs 42 = .ok (.iconst 2, 1) := by decide +kernel
theorem dX7_readJobs_43 : decode cX7_readJobs 43 = .ok (.invokevirtual 153, 3) := by decide +kernel
theorem dX7_readJobs_46 : decode cX7_readJobs 46 = .ok (.invokevirtual 78, 3) := by decide +kernel
theorem dX7_readJobs_49 : decode cX7_readJobs 49 = .ok (.ifnonnull 6, 3) := by decide +kernel
theorem dX7_readJobs_52 : decode cX7_readJobs 52 = .ok (.ldc 82, 2) := by decide +kernel
theorem dX7_readJobs_54 : decode cX7_readJobs 54 = .ok (.ireturn, 1) := by decide +kernel
theorem dX7_readJobs_55 : decode cX7_readJobs 55 = .ok (.iinc 3 1, 3) := by decide +kernel
theorem dX7_readJobs_58 : decode cX7_readJobs 58 = .ok (.goto (-30), 3) := by decide +kernel
theorem dX7_readJobs_61 : decode cX7_readJobs 61 = .ok (.aload_n 0, 1) := by decide +kernel
theorem dX7_readJobs_62 : decode cX7_readJobs 62 = .ok (.getfield 10, 3) := by decide +kernel
theorem dX7_readJobs_65 : decode cX7_readJobs 65 = .ok (.getfield 125, 3) := by decide +kernel
theorem dX7_readJobs_68 : decode cX7_readJobs 68 = .ok (.getfield 129, 3) := by decide +kernel
theorem dX7_readJobs_71 : decode cX7_readJobs 71 = .ok (.aload_n 2, 1) := by decide +kernel
theorem dX7_readJobs_72 : decode cX7_readJobs 72 = .ok (.getfield 129, 3) := by decide +kernel
theorem dX7_readJobs_75 : decode cX7_readJobs 75 = .ok (.iadd, 1) := by decide +kernel
theorem dX7_readJobs_76 : decode cX7_readJobs 76 = .ok (.bipush 20, 2) := by decide +kernel
theorem dX7_readJobs_78 : decode cX7_readJobs 78 = .ok (.if_icmp .le 9, 3) := by decide +kernel
theorem dX7_readJobs_81 : decode cX7_readJobs 81 = .ok (.aload_n 0, 1) := by decide +kernel
theorem dX7_readJobs_82 : decode cX7_readJobs 82 = .ok (.iconst 1, 1) := by decide +kernel
theorem dX7_readJobs_83 : decode cX7_readJobs 83 = .ok (.invokevirtual 60, 3) := by decide +kernel
theorem dX7_readJobs_86 : decode cX7_readJobs 86 = .ok (.ireturn, 1) := by decide +kernel
theorem dX7_readJobs_87 : decode cX7_readJobs 87 = .ok (.aload_n 0, 1) := by decide +kernel
theorem dX7_readJobs_88 : decode cX7_readJobs 88 = .ok (.getfield 22, 3) := by decide +kernel
theorem dX7_readJobs_91 : decode cX7_readJobs 91 = .ok (.aload_n 0, 1) := by decide +kernel
theorem dX7_readJobs_92 : decode cX7_readJobs 92 = .ok (.getfield 10, 3) := by decide +kernel
theorem dX7_readJobs_95 : decode cX7_readJobs 95 = .ok (.invokevirtual 68, 3) := by decide +kernel
theorem dX7_readJobs_98 : decode cX7_readJobs 98 = .ok (.iconst 0, 1) := by decide +kernel
theorem dX7_readJobs_99 : decode cX7_readJobs 99 = .ok (.istore_n 3, 1) := by decide +kernel
theorem dX7_readJobs_100 : decode cX7_readJobs 100 = .ok (.iload_n 3, 1) := by decide +kernel
theorem dX7_readJobs_101 : decode cX7_readJobs 101 = .ok (.aload_n 2, 1) := by decide +kernel
theorem dX7_readJobs_102 : decode cX7_readJobs 102 = .ok (.getfield 129, 3) := by decide +kernel
theorem dX7_readJobs_105 : decode cX7_readJobs 105 = .ok (.if_icmp .ge 35, 3) := by decide +kernel
theorem dX7_readJobs_108 : decode cX7_readJobs 108 = .ok (.aload_n 0, 1) := by decide +kernel
theorem dX7_readJobs_109 : decode cX7_readJobs 109 = .ok (.getfield 10, 3) := by decide +kernel
theorem dX7_readJobs_112 : decode cX7_readJobs 112 = .ok (.aload_n 2, 1) := by decide +kernel
theorem dX7_readJobs_113 : decode cX7_readJobs 113 = .ok (.iload_n 3, 1) := by decide +kernel
theorem dX7_readJobs_114 : decode cX7_readJobs 114 = .ok (.iconst 1, 1) := by decide +kernel
theorem dX7_readJobs_115 : decode cX7_readJobs 115 = .ok (.invokevirtual 153, 3) := by decide +kernel
theorem dX7_readJobs_118 : decode cX7_readJobs 118 = .ok (.aload_n 2, 1) := by decide +kernel
theorem dX7_readJobs_119 : decode cX7_readJobs 119 = .ok (.iload_n 3, 1) := by decide +kernel
theorem dX7_readJobs_120 : decode cX7_readJobs 120 = .ok (.iconst 2, 1) := by decide +kernel
theorem dX7_readJobs_121 : decode cX7_readJobs 121 = .ok (.invokevirtual 153, 3) := by decide +kernel
theorem dX7_readJobs_124 : decode cX7_readJobs 124 = .ok (.aload_n 2, 1) := by decide +kernel
theorem dX7_readJobs_125 : decode cX7_readJobs 125 = .ok (.iload_n 3, 1) := by decide +kernel
theorem dX7_readJobs_126 : decode cX7_readJobs 126 = .ok (.iconst 3, 1) := by decide +kernel
theorem dX7_readJobs_127 : decode cX7_readJobs 127 = .ok (.invokevirtual 153, 3) := by decide +kernel
theorem dX7_readJobs_130 : decode cX7_readJobs 130 = .ok (.invokevirtual 134, 3) := by decide +kernel
theorem dX7_readJobs_133 : decode cX7_readJobs 133 = .ok (.pop, 1) := by decide +kernel
theorem dX7_readJobs_134 : decode cX7_readJobs 134 = .ok (.iinc 3 1, 3) := by decide +kernel
theorem dX7_readJobs_137 : decode cX7_readJobs 137 = .ok (.goto (-37), 3) := by decide +kernel
theorem dX7_readJobs_140 : decode cX7_readJobs 140 = .ok (.aload_n 2, 1) := by decide +kernel
theorem dX7_readJobs_141 : decode cX7_readJobs 141 = .ok (.getfield 129, 3) := by decide +kernel
theorem dX7_readJobs_144 : decode cX7_readJobs 144 = .ok (.ireturn, 1) := by decide +kernel
theorem dX7_undo_0 : decode cX7_undo 0 = .ok (.aload_n 0, 1) := by decide +kernel
theorem dX7_undo_1 : decode cX7_undo 1 = .ok (.getfield 22, 3) := by decide +kernel
theorem dX7_undo_4 : decode cX7_undo 4 = .ok (.invokevirtual 174, 3) := by decide +kernel
theorem dX7_undo_7 : decode cX7_undo 7 = .ok (.astore_n 1, 1) := by decide +kernel
theorem dX7_undo_8 : decode cX7_undo 8 = .ok (.aload_n 1, 1) := by decide +kernel
theorem dX7_undo_9 : decode cX7_undo 9 = .ok (.ifnonnull 6, 3) := by decide +kernel
theorem dX7_undo_12 : decode cX7_undo 12 = .ok (.ldc 96, 2) := by decide +kernel
theorem dX7_undo_14 : decode cX7_undo 14 = .ok (.ireturn, 1) := by decide +kernel
theorem dX7_undo_15 : decode cX7_undo 15 = .ok (.aload_n 0, 1) := by decide +kernel
theorem dX7_undo_16 : decode cX7_undo 16 = .ok (.getfield 10, 3) := by decide +kernel
theorem dX7_undo_19 : decode cX7_undo 19 = .ok (.aload_n 1, 1) := by decide +kernel
theorem dX7_undo_20 : decode cX7_undo 20 = .ok (.invokevirtual 178, 3) := by decide +kernel
theorem dX7_undo_23 : decode cX7_undo 23 = .ok (.aload_n 0, 1) := by decide +kernel
theorem dX7_undo_24 : decode cX7_undo 24 = .ok (.getfield 22, 3) := by decide +kernel
theorem dX7_undo_27 : decode cX7_undo 27 = .ok (.getfield 181, 3) := by decide +kernel
theorem dX7_undo_30 : decode cX7_undo 30 = .ok (.ireturn, 1) := by decide +kernel
theorem dX7_keep_0 : decode cX7_keep 0 = .ok (.aload_n 0, 1) := by decide +kernel
theorem dX7_keep_1 : decode cX7_keep 1 = .ok (.getfield 16, 3) := by decide +kernel
theorem dX7_keep_4 : decode cX7_keep 4 = .ok (.aload_n 0, 1) := by decide +kernel
theorem dX7_keep_5 : decode cX7_keep 5 = .ok (.getfield 10, 3) := by decide +kernel
theorem dX7_keep_8 : decode cX7_keep 8 = .ok (.invokevirtual 178, 3) := by decide +kernel
theorem dX7_keep_11 : decode cX7_keep 11 = .ok (.aload_n 0, 1) := by decide +kernel
theorem dX7_keep_12 : decode cX7_keep 12 = .ok (.iconst 1, 1) := by decide +kernel
theorem dX7_keep_13 : decode cX7_keep 13 = .ok (.putfield 182, 3) := by decide +kernel
theorem dX7_keep_16 : decode cX7_keep 16 = .ok (.aload_n 0, 1) := by decide +kernel
theorem dX7_keep_17 : decode cX7_keep 17 = .ok (.getfield 10, 3) := by decide +kernel
theorem dX7_keep_20 : decode cX7_keep 20 = .ok (.getfield 52, 3) := by decide +kernel
theorem dX7_keep_23 : decode cX7_keep 23 = .ok (.ireturn, 1) := by decide +kernel
theorem dX7_restore_0 : decode cX7_restore 0 = .ok (.aload_n 0, 1) := by decide +kernel
theorem dX7_restore_1 : decode cX7_restore 1 = .ok (.getfield 182, 3) := by decide +kernel
theorem dX7_restore_4 : decode cX7_restore 4 = .ok (.ifCond .ne 6, 3) := by decide +kernel
theorem dX7_restore_7 : decode cX7_restore 7 = .ok (.ldc 96, 2) := by decide +kernel
theorem dX7_restore_9 : decode cX7_restore 9 = .ok (.ireturn, 1) := by decide +kernel
theorem dX7_restore_10 : decode cX7_restore 10 = .ok (.aload_n 0, 1) := by decide +kernel
theorem dX7_restore_11 : decode cX7_restore 11 = .ok (.getfield 22, 3) := by decide +kernel
theorem dX7_restore_14 : decode cX7_restore 14 = .ok (.aload_n 0, 1) := by decide +kernel
theorem dX7_restore_15 : decode cX7_restore 15 = .ok (.getfield 10, 3) := by decide +kernel
theorem dX7_restore_18 : decode cX7_restore 18 = .ok (.invokevirtual 68, 3) := by decide +kernel
theorem dX7_restore_21 : decode cX7_restore 21 = .ok (.aload_n 0, 1) := by decide +kernel
theorem dX7_restore_22 : decode cX7_restore 22 = .ok (.getfield 10, 3) := by decide +kernel
theorem dX7_restore_25 : decode cX7_restore 25 = .ok (.aload_n 0, 1) := by decide +kernel
theorem dX7_restore_26 : decode cX7_restore 26 = .ok (.getfield 16, 3) := by decide +kernel
theorem dX7_restore_29 : decode cX7_restore 29 = .ok (.invokevirtual 178, 3) := by decide +kernel
theorem dX7_restore_32 : decode cX7_restore 32 = .ok (.aload_n 0, 1) := by decide +kernel
theorem dX7_restore_33 : decode cX7_restore 33 = .ok (.getfield 10, 3) := by decide +kernel
theorem dX7_restore_36 : decode cX7_restore 36 = .ok (.getfield 52, 3) := by decide +kernel
theorem dX7_restore_39 : decode cX7_restore 39 = .ok (.ireturn, 1) := by decide +kernel
theorem dX7_rosette_0 : decode cX7_rosette 0 = .ok (.aload_n 0, 1) := by decide +kernel
theorem dX7_rosette_1 : decode cX7_rosette 1 = .ok (.getfield 10, 3) := by decide +kernel
theorem dX7_rosette_4 : decode cX7_rosette 4 = .ok (.iload_n 1, 1) := by decide +kernel
theorem dX7_rosette_5 : decode cX7_rosette 5 = .ok (.invokevirtual 78, 3) := by decide +kernel
theorem dX7_rosette_8 : decode cX7_rosette 8 = .ok (.astore_n 3, 1) := by decide +kernel
theorem dX7_rosette_9 : decode cX7_rosette 9 = .ok (.aload_n 3, 1) := by decide +kernel
theorem dX7_rosette_10 : decode cX7_rosette 10 = .ok (.ifnonnull 6, 3) := by decide +kernel
theorem dX7_rosette_13 : decode cX7_rosette 13 = .ok (.ldc 82, 2) := by decide +kernel
theorem dX7_rosette_15 : decode cX7_rosette 15 = .ok (.ireturn, 1) := by decide +kernel
theorem dX7_rosette_16 : decode cX7_rosette 16 = .ok (.aload_n 0, 1) := by decide +kernel
theorem dX7_rosette_17 : decode cX7_rosette 17 = .ok (.getfield 43, 3) := by decide +kernel
theorem dX7_rosette_20 : decode cX7_rosette 20 = .ok (.aload_n 3, 1) := by decide +kernel
theorem dX7_rosette_21 : decode cX7_rosette 21 = .ok (.aload_n 0, 1) := by decide +kernel
theorem dX7_rosette_22 : decode cX7_rosette 22 = .ok (.getfield 10, 3) := by decide +kernel
theorem dX7_rosette_25 : decode cX7_rosette 25 = .ok (.getfield 97, 3) := by decide +kernel
theorem dX7_rosette_28 : decode cX7_rosette 28 = .ok (.invokevirtual 100, 3) := by decide +kernel
theorem dX7_rosette_31 : decode cX7_rosette 31 = .ok (.iload_n 2, 1) := by decide +kernel
theorem dX7_rosette_32 : decode cX7_rosette 32 = .ok (.tableswitch 150 0 11 #[64, 69, 82, 87, 92, 97, 102, 107, 112, 125, 133, 141], 64) := by decide +kernel
theorem dX7_rosette_96 : decode cX7_rosette 96 = .ok (.aload_n 3, 1) := by decide +kernel
theorem dX7_rosette_97 : decode cX7_rosette 97 = .ok (.getfield 185, 3) := by decide +kernel
theorem dX7_rosette_100 : decode cX7_rosette 100 = .ok (.ireturn, 1) := by decide +kernel
theorem dX7_rosette_101 : decode cX7_rosette 101 = .ok (.aload_n 3, 1) := by decide +kernel
theorem dX7_rosette_102 : decode cX7_rosette 102 = .ok (.getfield 188, 3) := by decide +kernel
theorem dX7_rosette_105 : decode cX7_rosette 105 = .ok (.ifCond .eq 7, 3) := by decide +kernel
theorem dX7_rosette_108 : decode cX7_rosette 108 = .ok (.iconst 1, 1) := by decide +kernel
theorem dX7_rosette_109 : decode cX7_rosette 109 = .ok (.goto 4, 3) := by decide +kernel
theorem dX7_rosette_112 : decode cX7_rosette 112 = .ok (.iconst 0, 1) := by decide +kernel
theorem dX7_rosette_113 : decode cX7_rosette 113 = .ok (.ireturn, 1) := by decide +kernel
theorem dX7_rosette_114 : decode cX7_rosette 114 = .ok (.aload_n 3, 1) := by decide +kernel
theorem dX7_rosette_115 : decode cX7_rosette 115 = .ok (.getfield 191, 3) := by decide +kernel
theorem dX7_rosette_118 : decode cX7_rosette 118 = .ok (.ireturn, 1) := by decide +kernel
theorem dX7_rosette_119 : decode cX7_rosette 119 = .ok (.aload_n 3, 1) := by decide +kernel
theorem dX7_rosette_120 : decode cX7_rosette 120 = .ok (.getfield 194, 3) := by decide +kernel
theorem dX7_rosette_123 : decode cX7_rosette 123 = .ok (.ireturn, 1) := by decide +kernel
theorem dX7_rosette_124 : decode cX7_rosette 124 = .ok (.aload_n 3, 1) := by decide +kernel
theorem dX7_rosette_125 : decode cX7_rosette 125 = .ok (.getfield 111, 3) := by decide +kernel
theorem dX7_rosette_128 : decode cX7_rosette 128 = .ok (.ireturn, 1) := by decide +kernel
theorem dX7_rosette_129 : decode cX7_rosette 129 = .ok (.aload_n 3, 1) := by decide +kernel
theorem dX7_rosette_130 : decode cX7_rosette 130 = .ok (.getfield 87, 3) := by decide +kernel
theorem dX7_rosette_133 : decode cX7_rosette 133 = .ok (.ireturn, 1) := by decide +kernel
theorem dX7_rosette_134 : decode cX7_rosette 134 = .ok (.aload_n 3, 1) := by decide +kernel
theorem dX7_rosette_135 : decode cX7_rosette 135 = .ok (.getfield 90, 3) := by decide +kernel
theorem dX7_rosette_138 : decode cX7_rosette 138 = .ok (.ireturn, 1) := by decide +kernel
theorem dX7_rosette_139 : decode cX7_rosette 139 = .ok (.aload_n 3, 1) := by decide +kernel
theorem dX7_rosette_140 : decode cX7_rosette 140 = .ok (.getfield 93, 3) := by decide +kernel
theorem dX7_rosette_143 : decode cX7_rosette 143 = .ok (.ireturn, 1) := by decide +kernel
theorem dX7_rosette_144 : decode cX7_rosette 144 = .ok (.aload_n 3, 1) := by decide +kernel
theorem dX7_rosette_145 : decode cX7_rosette 145 = .ok (.getfield 118, 3) := by decide +kernel
theorem dX7_rosette_148 : decode cX7_rosette 148 = .ok (.ifCond .eq 7, 3) := by decide +kernel
theorem dX7_rosette_151 : decode cX7_rosette 151 = .ok (.iconst 1, 1) := by decide +kernel
theorem dX7_rosette_152 : decode cX7_rosette 152 = .ok (.goto 4, 3) := by decide +kernel
theorem dX7_rosette_155 : decode cX7_rosette 155 = .ok (.iconst 0, 1) := by decide +kernel
theorem dX7_rosette_156 : decode cX7_rosette 156 = .ok (.ireturn, 1) := by decide +kernel
theorem dX7_rosette_157 : decode cX7_rosette 157 = .ok (.aload_n 0, 1) := by decide +kernel
theorem dX7_rosette_158 : decode cX7_rosette 158 = .ok (.getfield 43, 3) := by decide +kernel
theorem dX7_rosette_161 : decode cX7_rosette 161 = .ok (.getfield 197, 3) := by decide +kernel
theorem dX7_rosette_164 : decode cX7_rosette 164 = .ok (.ireturn, 1) := by decide +kernel
theorem dX7_rosette_165 : decode cX7_rosette 165 = .ok (.aload_n 0, 1) := by decide +kernel
theorem dX7_rosette_166 : decode cX7_rosette 166 = .ok (.getfield 43, 3) := by decide +kernel
theorem dX7_rosette_169 : decode cX7_rosette 169 = .ok (.getfield 200, 3) := by decide +kernel
theorem dX7_rosette_172 : decode cX7_rosette 172 = .ok (.ireturn, 1) := by decide +kernel
theorem dX7_rosette_173 : decode cX7_rosette 173 = .ok (.aload_n 0, 1) := by decide +kernel
theorem dX7_rosette_174 : decode cX7_rosette 174 = .ok (.getfield 10, 3) := by decide +kernel
theorem dX7_rosette_177 : decode cX7_rosette 177 = .ok (.iload_n 1, 1) := by decide +kernel
theorem dX7_rosette_178 : decode cX7_rosette 178 = .ok (.invokevirtual 138, 3) := by decide +kernel
theorem dX7_rosette_181 : decode cX7_rosette 181 = .ok (.ireturn, 1) := by decide +kernel
theorem dX7_rosette_182 : decode cX7_rosette 182 = .ok (.ldc 51, 2) := by decide +kernel
theorem dX7_rosette_184 : decode cX7_rosette 184 = .ok (.ireturn, 1) := by decide +kernel
theorem dX7_gauge_0 : decode cX7_gauge 0 = .ok (.aload_n 0, 1) := by decide +kernel
theorem dX7_gauge_1 : decode cX7_gauge 1 = .ok (.getfield 10, 3) := by decide +kernel
theorem dX7_gauge_4 : decode cX7_gauge 4 = .ok (.iload_n 1, 1) := by decide +kernel
theorem dX7_gauge_5 : decode cX7_gauge 5 = .ok (.invokevirtual 78, 3) := by decide +kernel
theorem dX7_gauge_8 : decode cX7_gauge 8 = .ok (.astore 4, 2) := by decide +kernel
theorem dX7_gauge_10 : decode cX7_gauge 10 = .ok (.aload 4, 2) := by decide +kernel
theorem dX7_gauge_12 : decode cX7_gauge 12 = .ok (.ifnull 12, 3) := by decide +kernel
theorem dX7_gauge_15 : decode cX7_gauge 15 = .ok (.iload_n 2, 1) := by decide +kernel
theorem dX7_gauge_16 : decode cX7_gauge 16 = .ok (.iconst 0, 1) := by decide +kernel
theorem dX7_gauge_17 : decode cX7_gauge 17 = .ok (.iconst 2, 1) := by decide +kernel
theorem dX7_gauge_18 : decode cX7_gauge 18 = .ok (.invokestatic 47, 3) := by decide +kernel
theorem dX7_gauge_21 : decode cX7_gauge 21 = .ok (.ifCond .ne 6, 3) := by decide +kernel
theorem dX7_gauge_24 : decode cX7_gauge 24 = .ok (.ldc 82, 2) := by decide +kernel
theorem dX7_gauge_26 : decode cX7_gauge 26 = .ok (.ireturn, 1) := by decide +kernel
theorem dX7_gauge_27 : decode cX7_gauge 27 = .ok (.aload_n 0, 1) := by decide +kernel
theorem dX7_gauge_28 : decode cX7_gauge 28 = .ok (.getfield 43, 3) := by decide +kernel
theorem dX7_gauge_31 : decode cX7_gauge 31 = .ok (.aload 4, 2) := by decide +kernel
theorem dX7_gauge_33 : decode cX7_gauge 33 = .ok (.aload_n 0, 1) := by decide +kernel
theorem dX7_gauge_34 : decode cX7_gauge 34 = .ok (.getfield 10, 3) := by decide +kernel
theorem dX7_gauge_37 : decode cX7_gauge 37 = .ok (.getfield 97, 3) := by decide +kernel
theorem dX7_gauge_40 : decode cX7_gauge 40 = .ok (.invokevirtual 100, 3) := by decide +kernel
theorem dX7_gauge_43 : decode cX7_gauge 43 = .ok (.iload_n 3, 1) := by decide +kernel
theorem dX7_gauge_44 : decode cX7_gauge 44 = .ok (.tableswitch 122 0 7 #[48, 56, 66, 76, 86, 94, 102, 112], 48) := by decide +kernel
theorem dX7_gauge_92 : decode cX7_gauge 92 = .ok (.aload 4, 2) := by decide +kernel
theorem dX7_gauge_94 : decode cX7_gauge 94 = .ok (.getfield 114, 3) := by decide +kernel
theorem dX7_gauge_97 : decode cX7_gauge 97 = .ok (.iload_n 2, 1) := by decide +kernel
theorem dX7_gauge_98 : decode cX7_gauge 98 = .ok (.iaload, 1) := by decide +kernel
theorem dX7_gauge_99 : decode cX7_gauge 99 = .ok (.ireturn, 1) := by decide +kernel
theorem dX7_gauge_100 : decode cX7_gauge 100 = .ok (.aload_n 0, 1) := by decide +kernel
theorem dX7_gauge_101 : decode cX7_gauge 101 = .ok (.getfield 43, 3) := by decide +kernel
theorem dX7_gauge_104 : decode cX7_gauge 104 = .ok (.getfield 203, 3) := by decide +kernel
theorem dX7_gauge_107 : decode cX7_gauge 107 = .ok (.iload_n 2, 1) := by decide +kernel
theorem dX7_gauge_108 : decode cX7_gauge 108 = .ok (.iaload, 1) := by decide +kernel
theorem dX7_gauge_109 : decode cX7_gauge 109 = .ok (.ireturn, 1) := by decide +kernel
theorem dX7_gauge_110 : decode cX7_gauge 110 = .ok (.aload_n 0, 1) := by decide +kernel
theorem dX7_gauge_111 : decode cX7_gauge 111 = .ok (.getfield 43, 3) := by decide +kernel
theorem dX7_gauge_114 : decode cX7_gauge 114 = .ok (.getfield 206, 3) := by decide +kernel
theorem dX7_gauge_117 : decode cX7_gauge 117 = .ok (.iload_n 2, 1) := by decide +kernel
theorem dX7_gauge_118 : decode cX7_gauge 118 = .ok (.iaload, 1) := by decide +kernel
theorem dX7_gauge_119 : decode cX7_gauge 119 = .ok (.ireturn, 1) := by decide +kernel
theorem dX7_gauge_120 : decode cX7_gauge 120 = .ok (.aload_n 0, 1) := by decide +kernel
theorem dX7_gauge_121 : decode cX7_gauge 121 = .ok (.getfield 43, 3) := by decide +kernel
theorem dX7_gauge_124 : decode cX7_gauge 124 = .ok (.getfield 122, 3) := by decide +kernel
theorem dX7_gauge_127 : decode cX7_gauge 127 = .ok (.iload_n 2, 1) := by decide +kernel
theorem dX7_gauge_128 : decode cX7_gauge 128 = .ok (.iaload, 1) := by decide +kernel
theorem dX7_gauge_129 : decode cX7_gauge 129 = .ok (.ireturn, 1) := by decide +kernel
theorem dX7_gauge_130 : decode cX7_gauge 130 = .ok (.aload 4, 2) := by decide +kernel
theorem dX7_gauge_132 : decode cX7_gauge 132 = .ok (.getfield 209, 3) := by decide +kernel
theorem dX7_gauge_135 : decode cX7_gauge 135 = .ok (.iload_n 2, 1) := by decide +kernel
theorem dX7_gauge_136 : decode cX7_gauge 136 = .ok (.iaload, 1) := by decide +kernel
theorem dX7_gauge_137 : decode cX7_gauge 137 = .ok (.ireturn, 1) := by decide +kernel
theorem dX7_gauge_138 : decode cX7_gauge 138 = .ok (.aload 4, 2) := by decide +kernel
theorem dX7_gauge_140 : decode cX7_gauge 140 = .ok (.getfield 212, 3) := by decide +kernel
theorem dX7_gauge_143 : decode cX7_gauge 143 = .ok (.iload_n 2, 1) := by decide +kernel
theorem dX7_gauge_144 : decode cX7_gauge 144 = .ok (.iaload, 1) := by decide +kernel
theorem dX7_gauge_145 : decode cX7_gauge 145 = .ok (.ireturn, 1) := by decide +kernel
theorem dX7_gauge_146 : decode cX7_gauge 146 = .ok (.aload_n 0, 1) := by decide +kernel
theorem dX7_gauge_147 : decode cX7_gauge 147 = .ok (.getfield 43, 3) := by decide +kernel
theorem dX7_gauge_150 : decode cX7_gauge 150 = .ok (.getfield 215, 3) := by decide +kernel
theorem dX7_gauge_153 : decode cX7_gauge 153 = .ok (.iload_n 2, 1) := by decide +kernel
theorem dX7_gauge_154 : decode cX7_gauge 154 = .ok (.iaload, 1) := by decide +kernel
theorem dX7_gauge_155 : decode cX7_gauge 155 = .ok (.ireturn, 1) := by decide +kernel
theorem dX7_gauge_156 : decode cX7_gauge 156 = .ok (.aload_n 0, 1) := by decide +kernel
theorem dX7_gauge_157 : decode cX7_gauge 157 = .ok (.getfield 43, 3) := by decide +kernel
theorem dX7_gauge_160 : decode cX7_gauge 160 = .ok (.getfield 218, 3) := by decide +kernel
theorem dX7_gauge_163 : decode cX7_gauge 163 = .ok (.iload_n 2, 1) := by decide +kernel
theorem dX7_gauge_164 : decode cX7_gauge 164 = .ok (.iaload, 1) := by decide +kernel
theorem dX7_gauge_165 : decode cX7_gauge 165 = .ok (.ireturn, 1) := by decide +kernel
theorem dX7_gauge_166 : decode cX7_gauge 166 = .ok (.ldc 51, 2) := by decide +kernel
theorem dX7_gauge_168 : decode cX7_gauge 168 = .ok (.ireturn, 1) := by decide +kernel
theorem dX7_principal_0 : decode cX7_principal 0 = .ok (.aload_n 0, 1) := by decide +kernel
theorem dX7_principal_1 : decode cX7_principal 1 = .ok (.getfield 10, 3) := by decide +kernel
theorem dX7_principal_4 : decode cX7_principal 4 = .ok (.iload_n 1, 1) := by decide +kernel
theorem dX7_principal_5 : decode cX7_principal 5 = .ok (.invokevirtual 78, 3) := by decide +kernel
theorem dX7_principal_8 : decode cX7_principal 8 = .ok (.astore_n 3, 1) := by decide +kernel
theorem dX7_principal_9 : decode cX7_principal 9 = .ok (.aload_n 3, 1) := by decide +kernel
theorem dX7_principal_10 : decode cX7_principal 10 = .ok (.ifnonnull 6, 3) := by decide +kernel
theorem dX7_principal_13 : decode cX7_principal 13 = .ok (.ldc 82, 2) := by decide +kernel
theorem dX7_principal_15 : decode cX7_principal 15 = .ok (.ireturn, 1) := by decide +kernel
theorem dX7_principal_16 : decode cX7_principal 16 = .ok (.aload_n 0, 1) := by decide +kernel
theorem dX7_principal_17 : decode cX7_principal 17 = .ok (.getfield 43, 3) := by decide +kernel
theorem dX7_principal_20 : decode cX7_principal 20 = .ok (.aload_n 3, 1) := by decide +kernel
theorem dX7_principal_21 : decode cX7_principal 21 = .ok (.aload_n 0, 1) := by decide +kernel
theorem dX7_principal_22 : decode cX7_principal 22 = .ok (.getfield 10, 3) := by decide +kernel
theorem dX7_principal_25 : decode cX7_principal 25 = .ok (.getfield 97, 3) := by decide +kernel
theorem dX7_principal_28 : decode cX7_principal 28 = .ok (.invokevirtual 100, 3) := by decide +kernel
theorem dX7_principal_31 : decode cX7_principal 31 = .ok (.iload_n 2, 1) := by decide +kernel
theorem dX7_principal_32 : decode cX7_principal 32 = .ok (.tableswitch 128 0 7 #[48, 64, 80, 88, 96, 104, 112, 120], 48) := by decide +kernel
theorem dX7_principal_80 : decode cX7_principal 80 = .ok (.aload_n 0, 1) := by decide +kernel
theorem dX7_principal_81 : decode cX7_principal 81 = .ok (.getfield 43, 3) := by decide +kernel
theorem dX7_principal_84 : decode cX7_principal 84 = .ok (.getfield 221, 3) := by decide +kernel
theorem dX7_principal_87 : decode cX7_principal 87 = .ok (.aload_n 0, 1) := by decide +kernel
theorem dX7_principal_88 : decode cX7_principal 88 = .ok (.getfield 43, 3) := by decide +kernel
theorem dX7_principal_91 : decode cX7_principal 91 = .ok (.getfield 224, 3) := by decide +kernel
theorem dX7_principal_94 : decode cX7_principal 94 = .ok (.iadd, 1) := by decide +kernel
theorem dX7_principal_95 : decode cX7_principal 95 = .ok (.ireturn, 1) := by decide +kernel
theorem dX7_principal_96 : decode cX7_principal 96 = .ok (.aload_n 0, 1) := by decide +kernel
theorem dX7_principal_97 : decode cX7_principal 97 = .ok (.getfield 43, 3) := by decide +kernel
theorem dX7_principal_100 : decode cX7_principal 100 = .ok (.getfield 221, 3) := by decide +kernel
theorem dX7_principal_103 : decode cX7_principal 103 = .ok (.aload_n 0, 1) := by decide +kernel
theorem dX7_principal_104 : decode cX7_principal 104 = .ok (.getfield 43, 3) := by decide +kernel
theorem dX7_principal_107 : decode cX7_principal 107 = .ok (.getfield 224, 3) := by decide +kernel
theorem dX7_principal_110 : decode cX7_principal 110 = .ok (.isub, 1) := by decide +kernel
theorem dX7_principal_111 : decode cX7_principal 111 = .ok (.ireturn, 1) := by decide +kernel
theorem dX7_principal_112 : decode cX7_principal 112 = .ok (.aload_n 0, 1) := by decide +kernel
theorem dX7_principal_113 : decode cX7_principal 113 = .ok (.getfield 43, 3) := by decide +kernel
theorem dX7_principal_116 : decode cX7_principal 116 = .ok (.getfield 227, 3) := by decide +kernel
theorem dX7_principal_119 : decode cX7_principal 119 = .ok (.ireturn, 1) := by decide +kernel
theorem dX7_principal_120 : decode cX7_principal 120 = .ok (.aload_n 0, 1) := by decide +kernel
theorem dX7_principal_121 : decode cX7_principal 121 = .ok (.getfield 43, 3) := by decide +kernel
theorem dX7_principal_124 : decode cX7_principal 124 = .ok (.getfield 224, 3) := by decide +kernel
theorem dX7_principal_127 : decode cX7_principal 127 = .ok (.ireturn, 1) := by decide +kernel
theorem dX7_principal_128 : decode cX7_principal 128 = .ok (.aload_n 0, 1) := by decide +kernel
theorem dX7_principal_129 : decode cX7_principal 129 = .ok (.getfield 43, 3) := by decide +kernel
theorem dX7_principal_132 : decode cX7_principal 132 = .ok (.getfield 230, 3) := by decide +kernel
theorem dX7_principal_135 : decode cX7_principal 135 = .ok (.ireturn, 1) := by decide +kernel
theorem dX7_principal_136 : decode cX7_principal 136 = .ok (.aload_n 0, 1) := by decide +kernel
theorem dX7_principal_137 : decode cX7_principal 137 = .ok (.getfield 43, 3) := by decide +kernel
theorem dX7_principal_140 : decode cX7_principal 140 = .ok (.getfield 231, 3) := by decide +kernel
theorem dX7_principal_143 : decode cX7_principal 143 = .ok (.ireturn, 1) := by decide +kernel
theorem dX7_principal_144 : decode cX7_principal 144 = .ok (.aload_n 0, 1) := by decide +kernel
theorem dX7_principal_145 : decode cX7_principal 145 = .ok (.getfield 43, 3) := by decide +kernel
theorem dX7_principal_148 : decode cX7_principal 148 = .ok (.getfield 232, 3) := by decide +kernel
theorem dX7_principal_151 : decode cX7_principal 151 = .ok (.ireturn, 1) := by decide +kernel
theorem dX7_principal_152 : decode cX7_principal 152 = .ok (.aload_n 0, 1) := by decide +kernel
theorem dX7_principal_153 : decode cX7_principal 153 = .ok (.getfield 43, 3) := by decide +kernel
theorem dX7_principal_156 : decode cX7_principal 156 = .ok (.getfield 221, 3) := by decide +kernel
theorem dX7_principal_159 : decode cX7_principal 159 = .ok (.ireturn, 1) := by decide +kernel
theorem dX7_principal_160 : decode cX7_principal 160 = .ok (.ldc 51, 2) := by decide +kernel
theorem dX7_principal_162 : decode cX7_principal 162 = .ok (.ireturn, 1) := by decide +kernel
theorem dX7_pull_0 : decode cX7_pull 0 = .ok (.aload_n 0, 1) := by decide +kernel
theorem dX7_pull_1 : decode cX7_pull 1 = .ok (.getfield 10, 3) := by decide +kernel
theorem dX7_pull_4 : decode cX7_pull 4 = .ok (.iload_n 1, 1) := by decide +kernel
theorem dX7_pull_5 : decode cX7_pull 5 = .ok (.invokevirtual 78, 3) := by decide +kernel
theorem dX7_pull_8 : decode cX7_pull 8 = .ok (.astore_n 3, 1) := by decide +kernel
theorem dX7_pull_9 : decode cX7_pull 9 = .ok (.aload_n 3, 1) := by decide +kernel
theorem dX7_pull_10 : decode cX7_pull 10 = .ok (.ifnonnull 6, 3) := by decide +kernel
theorem dX7_pull_13 : decode cX7_pull 13 = .ok (.ldc 82, 2) := by decide +kernel
theorem dX7_pull_15 : decode cX7_pull 15 = .ok (.ireturn, 1) := by decide +kernel
theorem dX7_pull_16 : decode cX7_pull 16 = .ok (.iload_n 2, 1) := by decide +kernel
theorem dX7_pull_17 : decode cX7_pull 17 = .ok (.iconst 0, 1) := by decide +kernel
theorem dX7_pull_18 : decode cX7_pull 18 = .ok (.bipush 23, 2) := by decide +kernel
theorem dX7_pull_20 : decode cX7_pull 20 = .ok (.invokestatic 47, 3) := by decide +kernel
theorem dX7_pull_23 : decode cX7_pull 23 = .ok (.ifCond .ne 6, 3) := by decide +kernel
theorem dX7_pull_26 : decode cX7_pull 26 = .ok (.ldc 51, 2) := by decide +kernel
theorem dX7_pull_28 : decode cX7_pull 28 = .ok (.ireturn, 1) := by decide +kernel
theorem dX7_pull_29 : decode cX7_pull 29 = .ok (.aload_n 0, 1) := by decide +kernel
theorem dX7_pull_30 : decode cX7_pull 30 = .ok (.getfield 43, 3) := by decide +kernel
theorem dX7_pull_33 : decode cX7_pull 33 = .ok (.aload_n 3, 1) := by decide +kernel
theorem dX7_pull_34 : decode cX7_pull 34 = .ok (.aload_n 0, 1) := by decide +kernel
theorem dX7_pull_35 : decode cX7_pull 35 = .ok (.getfield 10, 3) := by decide +kernel
theorem dX7_pull_38 : decode cX7_pull 38 = .ok (.getfield 97, 3) := by decide +kernel
theorem dX7_pull_41 : decode cX7_pull 41 = .ok (.invokevirtual 100, 3) := by decide +kernel
theorem dX7_pull_44 : decode cX7_pull 44 = .ok (.aload_n 0, 1) := by decide +kernel
theorem dX7_pull_45 : decode cX7_pull 45 = .ok (.getfield 43, 3) := by decide +kernel
theorem dX7_pull_48 : decode cX7_pull 48 = .ok (.iload_n 2, 1) := by decide +kernel
theorem dX7_pull_49 : decode cX7_pull 49 = .ok (.invokevirtual 233, 3) := by decide +kernel
theorem dX7_pull_52 : decode cX7_pull 52 = .ok (.ldc2_w 237, 3) := by decide +kernel
theorem dX7_pull_55 : decode cX7_pull 55 = .ok (.ldiv, 1) := by decide +kernel
theorem dX7_pull_56 : decode cX7_pull 56 = .ok (.l2i, 1) := by decide +kernel
theorem dX7_pull_57 : decode cX7_pull 57 = .ok (.ireturn, 1) := by decide +kernel
theorem dX7_job_0 : decode cX7_job 0 = .ok (.iload_n 1, 1) := by decide +kernel
theorem dX7_job_1 : decode cX7_job 1 = .ok (.ifCond .lt 12, 3) := by decide +kernel
theorem dX7_job_4 : decode cX7_job 4 = .ok (.iload_n 2, 1) := by decide +kernel
theorem dX7_job_5 : decode cX7_job 5 = .ok (.iconst 0, 1) := by decide +kernel
theorem dX7_job_6 : decode cX7_job 6 = .ok (.iconst 4, 1) := by decide +kernel
theorem dX7_job_7 : decode cX7_job 7 = .ok (.invokestatic 47, 3) := by decide +kernel
theorem dX7_job_10 : decode cX7_job 10 = .ok (.ifCond .ne 6, 3) := by decide +kernel
theorem dX7_job_13 : decode cX7_job 13 = .ok (.ldc 51, 2) := by decide +kernel
theorem dX7_job_15 : decode cX7_job 15 = .ok (.ireturn, 1) := by decide +kernel
theorem dX7_job_16 : decode cX7_job 16 = .ok (.iload_n 1, 1) := by decide +kernel
theorem dX7_job_17 : decode cX7_job 17 = .ok (.aload_n 0, 1) := by decide +kernel
theorem dX7_job_18 : decode cX7_job 18 = .ok (.getfield 10, 3) := by decide +kernel
theorem dX7_job_21 : decode cX7_job 21 = .ok (.getfield 125, 3) := by decide +kernel
theorem dX7_job_24 : decode cX7_job 24 = .ok (.getfield 129, 3) := by decide +kernel
theorem dX7_job_27 : decode cX7_job 27 = .ok (.if_icmp .lt 6, 3) := by decide +kernel
theorem dX7_job_30 : decode cX7_job 30 = .ok (.ldc 96, 2) := by decide +kernel
theorem dX7_job_32 : decode cX7_job 32 = .ok (.ireturn, 1) := by decide +kernel
theorem dX7_job_33 : decode cX7_job 33 = .ok (.aload_n 0, 1) := by decide +kernel
theorem dX7_job_34 : decode cX7_job 34 = .ok (.getfield 36, 3) := by decide +kernel
theorem dX7_job_37 : decode cX7_job 37 = .ok (.aload_n 0, 1) := by decide +kernel
theorem dX7_job_38 : decode cX7_job 38 = .ok (.getfield 10, 3) := by decide +kernel
theorem dX7_job_41 : decode cX7_job 41 = .ok (.invokevirtual 145, 3) := by decide +kernel
theorem dX7_job_44 : decode cX7_job 44 = .ok (.iconst 0, 1) := by decide +kernel
theorem dX7_job_45 : decode cX7_job 45 = .ok (.istore_n 3, 1) := by decide +kernel
theorem dX7_job_46 : decode cX7_job 46 = .ok (.iload_n 3, 1) := by decide +kernel
theorem dX7_job_47 : decode cX7_job 47 = .ok (.iload_n 1, 1) := by decide +kernel
theorem dX7_job_48 : decode cX7_job 48 = .ok (.if_icmp .gt 20, 3) := by decide +kernel
theorem dX7_job_51 : decode cX7_job 51 = .ok (.aload_n 0, 1) := by decide +kernel
theorem dX7_job_52 : decode cX7_job 52 = .ok (.getfield 36, 3) := by decide +kernel
theorem dX7_job_55 : decode cX7_job 55 = .ok (.aload_n 0, 1) := by decide +kernel
theorem dX7_job_56 : decode cX7_job 56 = .ok (.getfield 10, 3) := by decide +kernel
theorem dX7_job_59 : decode cX7_job 59 = .ok (.invokevirtual 147, 3) := by decide +kernel
theorem dX7_job_62 : decode cX7_job 62 = .ok (.iinc 3 1, 3) := by decide +kernel
theorem dX7_job_65 : decode cX7_job 65 = .ok (.goto (-19), 3) := by decide +kernel
theorem dX7_job_68 : decode cX7_job 68 = .ok (.iload_n 2, 1) := by decide +kernel
theorem dX7_job_69 : decode cX7_job 69 = .ok (.iconst 4, 1) := by decide +kernel
theorem dX7_job_70 : decode cX7_job 70 = .ok (.if_icmp .ne 13, 3) := by decide +kernel
theorem dX7_job_73 : decode cX7_job 73 = .ok (.aload_n 0, 1) := by decide +kernel
theorem dX7_job_74 : decode cX7_job 74 = .ok (.getfield 36, 3) := by decide +kernel
theorem dX7_job_77 : decode cX7_job 77 = .ok (.getfield 239, 3) := by decide +kernel
theorem dX7_job_80 : decode cX7_job 80 = .ok (.goto 21, 3) := by decide +kernel
theorem dX7_job_83 : decode cX7_job 83 = .ok (.aload_n 0, 1) := by decide +kernel
theorem dX7_job_84 : decode cX7_job 84 = .ok (.getfield 10, 3) := by decide +kernel
theorem dX7_job_87 : decode cX7_job 87 = .ok (.getfield 125, 3) := by decide +kernel
theorem dX7_job_90 : decode cX7_job 90 = .ok (.aload_n 0, 1) := by decide +kernel
theorem dX7_job_91 : decode cX7_job 91 = .ok (.getfield 36, 3) := by decide +kernel
theorem dX7_job_94 : decode cX7_job 94 = .ok (.getfield 150, 3) := by decide +kernel
theorem dX7_job_97 : decode cX7_job 97 = .ok (.iload_n 2, 1) := by decide +kernel
theorem dX7_job_98 : decode cX7_job 98 = .ok (.invokevirtual 153, 3) := by decide +kernel
theorem dX7_job_101 : decode cX7_job 101 = .ok (.ireturn, 1) := by decide +kernel
theorem dX7_record_0 : decode cX7_record 0 = .ok (.iload_n 1, 1) := by decide +kernel
theorem dX7_record_1 : decode cX7_record 1 = .ok (.ifCond .lt 12, 3) := by decide +kernel
theorem dX7_record_4 : decode cX7_record 4 = .ok (.iload_n 2, 1) := by decide +kernel
theorem dX7_record_5 : decode cX7_record 5 = .ok (.iconst 0, 1) := by decide +kernel
theorem dX7_record_6 : decode cX7_record 6 = .ok (.iconst 3, 1) := by decide +kernel
theorem dX7_record_7 : decode cX7_record 7 = .ok (.invokestatic 47, 3) := by decide +kernel
theorem dX7_record_10 : decode cX7_record 10 = .ok (.ifCond .ne 6, 3) := by decide +kernel
theorem dX7_record_13 : decode cX7_record 13 = .ok (.ldc 51, 2) := by decide +kernel
theorem dX7_record_15 : decode cX7_record 15 = .ok (.ireturn, 1) := by decide +kernel
theorem dX7_record_16 : decode cX7_record 16 = .ok (.aload_n 0, 1) := by decide +kernel
theorem dX7_record_17 : decode cX7_record 17 = .ok (.getfield 10, 3) := by decide +kernel
theorem dX7_record_20 : decode cX7_record 20 = .ok (.getfield 242, 3) := by decide +kernel
theorem dX7_record_23 : decode cX7_record 23 = .ok (.getfield 129, 3) := by decide +kernel
theorem dX7_record_26 : decode cX7_record 26 = .ok (.istore_n 3, 1) := by decide +kernel
theorem dX7_record_27 : decode cX7_record 27 = .ok (.iload_n 1, 1) := by decide +kernel
theorem dX7_record_28 : decode cX7_record 28 = .ok (.iload_n 3, 1) := by decide +kernel
theorem dX7_record_29 : decode cX7_record 29 = .ok (.if_icmp .lt 8, 3) := by decide +kernel
theorem dX7_record_32 : decode cX7_record 32 = .ok (.ldc 96, 2) := by decide +kernel
theorem dX7_record_34 : decode cX7_record 34 = .ok (.goto 19, 3) := by decide +kernel
theorem dX7_record_37 : decode cX7_record 37 = .ok (.aload_n 0, 1) := by decide +kernel
theorem dX7_record_38 : decode cX7_record 38 = .ok (.getfield 10, 3) := by decide +kernel
theorem dX7_record_41 : decode cX7_record 41 = .ok (.getfield 242, 3) := by decide +kernel
theorem dX7_record_44 : decode cX7_record 44 = .ok (.iload_n 3, 1) := by decide +kernel
theorem dX7_record_45 : decode cX7_record 45 = .ok (.iconst 1, 1) := by decide +kernel
theorem dX7_record_46 : decode cX7_record 46 = .ok (.isub, 1) := by decide +kernel
theorem dX7_record_47 : decode cX7_record 47 = .ok (.iload_n 1, 1) := by decide +kernel
theorem dX7_record_48 : decode cX7_record 48 = .ok (.isub, 1) := by decide +kernel
theorem dX7_record_49 : decode cX7_record 49 = .ok (.iload_n 2, 1) := by decide +kernel
theorem dX7_record_50 : decode cX7_record 50 = .ok (.invokevirtual 153, 3) := by decide +kernel
theorem dX7_record_53 : decode cX7_record 53 = .ok (.ireturn, 1) := by decide +kernel
theorem dX7_neighbour_0 : decode cX7_neighbour 0 = .ok (.iload_n 1, 1) := by decide +kernel
theorem dX7_neighbour_1 : decode cX7_neighbour 1 = .ok (.iconst 0, 1) := by decide +kernel
theorem dX7_neighbour_2 : decode cX7_neighbour 2 = .ok (.sipush 1000, 3) := by decide +kernel
theorem dX7_neighbour_5 : decode cX7_neighbour 5 = .ok (.invokestatic 47, 3) := by decide +kernel
theorem dX7_neighbour_8 : decode cX7_neighbour 8 = .ok (.ifCond .ne 6, 3) := by decide +kernel
theorem dX7_neighbour_11 : decode cX7_neighbour 11 = .ok (.ldc 51, 2) := by decide +kernel
theorem dX7_neighbour_13 : decode cX7_neighbour 13 = .ok (.ireturn, 1) := by decide +kernel
theorem dX7_neighbour_14 : decode cX7_neighbour 14 = .ok (.ldc 96, 2) := by decide +kernel
theorem dX7_neighbour_16 : decode cX7_neighbour 16 = .ok (.istore_n 3, 1) := by decide +kernel
theorem dX7_neighbour_17 : decode cX7_neighbour 17 = .ok (.sipush 1001, 3) := by decide +kernel
theorem dX7_neighbour_20 : decode cX7_neighbour 20 = .ok (.istore 4, 2) := by decide +kernel
theorem dX7_neighbour_22 : decode cX7_neighbour 22 = .ok (.iconst 0, 1) := by decide +kernel
theorem dX7_neighbour_23 : decode cX7_neighbour 23 = .ok (.istore 5, 2) := by decide +kernel
theorem dX7_neighbour_25 : decode cX7_neighbour 25 = .ok (.iload 5, 2) := by decide +kernel
theorem dX7_neighbour_27 : decode cX7_neighbour 27 = .ok (.aload_n 0, 1) := by decide +kernel
theorem dX7_neighbour_28 : decode cX7_neighbour 28 = .ok (.getfield 10, 3) := by decide +kernel
theorem dX7_neighbour_31 : decode cX7_neighbour 31 = .ok (.getfield 52, 3) := by decide +kernel
theorem dX7_neighbour_34 : decode cX7_neighbour 34 = .ok (.if_icmp .ge 59, 3) := by decide +kernel
theorem dX7_neighbour_37 : decode cX7_neighbour 37 = .ok (.iload_n 2, 1) := by decide +kernel
theorem dX7_neighbour_38 : decode cX7_neighbour 38 = .ok (.ifCond .eq 17, 3) := by decide +kernel
theorem dX7_neighbour_41 : decode cX7_neighbour 41 = .ok (.aload_n 0, 1) := by decide +kernel
theorem dX7_neighbour_42 : decode cX7_neighbour 42 = .ok (.getfield 10, 3) := by decide +kernel
theorem dX7_neighbour_45 : decode cX7_neighbour 45 = .ok (.iload 5, 2) := by decide +kernel
theorem dX7_neighbour_47 : decode cX7_neighbour 47 = .ok (.invokevirtual 245, 3) := by decide +kernel
theorem dX7_neighbour_50 : decode cX7_neighbour 50 = .ok (.iload_n 1, 1) := by decide +kernel
theorem dX7_neighbour_51 : decode cX7_neighbour 51 = .ok (.isub, 1) := by decide +kernel
theorem dX7_neighbour_52 : decode cX7_neighbour 52 = .ok (.goto 14, 3) := by decide +kernel
theorem dX7_neighbour_55 : decode cX7_neighbour 55 = .ok (.iload_n 1, 1) := by decide +kernel
theorem dX7_neighbour_56 : decode cX7_neighbour 56 = .ok (.aload_n 0, 1) := by decide +kernel
theorem dX7_neighbour_57 : decode cX7_neighbour 57 = .ok (.getfield 10, 3) := by decide +kernel
theorem dX7_neighbour_60 : decode cX7_neighbour 60 = .ok (.iload 5, 2) := by decide +kernel
theorem dX7_neighbour_62 : decode cX7_neighbour 62 = .ok (.invokevirtual 245, 3) := by decide +kernel
theorem dX7_neighbour_65 : decode cX7_neighbour 65 = .ok (.isub, 1) := by decide +kernel
theorem dX7_neighbour_66 : decode cX7_neighbour 66 = .ok (.istore 6, 2) := by decide +kernel
theorem dX7_neighbour_68 : decode cX7_neighbour 68 = .ok (.iload 6, 2) := by decide +kernel
theorem dX7_neighbour_70 : decode cX7_neighbour 70 = .ok (.ifCond .le 17, 3) := by decide +kernel
theorem dX7_neighbour_73 : decode cX7_neighbour 73 = .ok (.iload 6, 2) := by decide +kernel
theorem dX7_neighbour_75 : decode cX7_neighbour 75 = .ok (.iload 4, 2) := by decide +kernel
theorem dX7_neighbour_77 : decode cX7_neighbour 77 = .ok (.if_icmp .ge 10, 3) := by decide +kernel
theorem dX7_neighbour_80 : decode cX7_neighbour 80 = .ok (.iload 5, 2) := by decide +kernel
theorem dX7_neighbour_82 : decode cX7_neighbour 82 = .ok (.istore_n 3, 1) := by decide +kernel
theorem dX7_neighbour_83 : decode cX7_neighbour 83 = .ok (.iload 6, 2) := by decide +kernel
theorem dX7_neighbour_85 : decode cX7_neighbour 85 = .ok (.istore 4, 2) := by decide +kernel
theorem dX7_neighbour_87 : decode cX7_neighbour 87 = .ok (.iinc 5 1, 3) := by decide +kernel
theorem dX7_neighbour_90 : decode cX7_neighbour 90 = .ok (.goto (-65), 3) := by decide +kernel
theorem dX7_neighbour_93 : decode cX7_neighbour 93 = .ok (.iload_n 3, 1) := by decide +kernel
theorem dX7_neighbour_94 : decode cX7_neighbour 94 = .ok (.ireturn, 1) := by decide +kernel
theorem dX7_count_0 : decode cX7_count 0 = .ok (.iload_n 1, 1) := by decide +kernel
theorem dX7_count_1 : decode cX7_count 1 = .ok (.tableswitch 162 0 11 #[63, 71, 82, 90, 98, 106, 114, 122, 130, 141, 146, 154], 63) := by decide +kernel
theorem dX7_count_64 : decode cX7_count 64 = .ok (.aload_n 0, 1) := by decide +kernel
theorem dX7_count_65 : decode cX7_count 65 = .ok (.getfield 10, 3) := by decide +kernel
theorem dX7_count_68 : decode cX7_count 68 = .ok (.getfield 52, 3) := by decide +kernel
theorem dX7_count_71 : decode cX7_count 71 = .ok (.ireturn, 1) := by decide +kernel
theorem dX7_count_72 : decode cX7_count 72 = .ok (.aload_n 0, 1) := by decide +kernel
theorem dX7_count_73 : decode cX7_count 73 = .ok (.getfield 10, 3) := by decide +kernel
theorem dX7_count_76 : decode cX7_count 76 = .ok (.getfield 125, 3) := by decide +kernel
theorem dX7_count_79 : decode cX7_count 79 = .ok (.getfield 129, 3) := by decide +kernel
theorem dX7_count_82 : decode cX7_count 82 = .ok (.ireturn, 1) := by decide +kernel
theorem dX7_count_83 : decode cX7_count 83 = .ok (.aload_n 0, 1) := by decide +kernel
theorem dX7_count_84 : decode cX7_count 84 = .ok (.getfield 10, 3) := by decide +kernel
theorem dX7_count_87 : decode cX7_count 87 = .ok (.getfield 248, 3) := by decide +kernel
theorem dX7_count_90 : decode cX7_count 90 = .ok (.ireturn, 1) := by decide +kernel
theorem dX7_count_91 : decode cX7_count 91 = .ok (.aload_n 0, 1) := by decide +kernel
theorem dX7_count_92 : decode cX7_count 92 = .ok (.getfield 10, 3) := by decide +kernel
theorem dX7_count_95 : decode cX7_count 95 = .ok (.getfield 251, 3) := by decide +kernel
theorem dX7_count_98 : decode cX7_count 98 = .ok (.ireturn, 1) := by decide +kernel
theorem dX7_count_99 : decode cX7_count 99 = .ok (.aload_n 0, 1) := by decide +kernel
theorem dX7_count_100 : decode cX7_count 100 = .ok (.getfield 10, 3) := by decide +kernel
theorem dX7_count_103 : decode cX7_count 103 = .ok (.getfield 160, 3) := by decide +kernel
theorem dX7_count_106 : decode cX7_count 106 = .ok (.ireturn, 1) := by decide +kernel
theorem dX7_count_107 : decode cX7_count 107 = .ok (.aload_n 0, 1) := by decide +kernel
theorem dX7_count_108 : decode cX7_count 108 = .ok (.getfield 10, 3) := by decide +kernel
theorem dX7_count_111 : decode cX7_count 111 = .ok (.getfield 254, 3) := by decide +kernel
theorem dX7_count_114 : decode cX7_count 114 = .ok (.ireturn, 1) := by decide +kernel
theorem dX7_count_115 : decode cX7_count 115 = .ok (.aload_n 0, 1) := by decide +kernel
theorem dX7_count_116 : decode cX7_count 116 = .ok (.getfield 10, 3) := by decide +kernel
theorem dX7_count_119 : decode cX7_count 119 = .ok (.getfield 255, 3) := by decide +kernel
theorem dX7_count_122 : decode cX7_count 122 = .ok (.ireturn, 1) := by decide +kernel
theorem dX7_count_123 : decode cX7_count 123 = .ok (.aload_n 0, 1) := by decide +kernel
theorem dX7_count_124 : decode cX7_count 124 = .ok (.getfield 10, 3) := by decide +kernel
theorem dX7_count_127 : decode cX7_count 127 = .ok (.getfield 97, 3) := by decide +kernel
theorem dX7_count_130 : decode cX7_count 130 = .ok (.ireturn, 1) := by decide +kernel
theorem dX7_count_131 : decode cX7_count 131 = .ok (.aload_n 0, 1) := by decide +kernel
theorem dX7_count_132 : decode cX7_count 132 = .ok (.getfield 10, 3) := by decide +kernel
theorem dX7_count_135 : decode cX7_count 135 = .ok (.getfield 242, 3) := by decide +kernel
theorem dX7_count_138 : decode cX7_count 138 = .ok (.getfield 129, 3) := by decide +kernel
theorem dX7_count_141 : decode cX7_count 141 = .ok (.ireturn, 1) := by decide +kernel
theorem dX7_count_142 : decode cX7_count 142 = .ok (.aload_n 0, 1) := by decide +kernel
theorem dX7_count_143 : decode cX7_count 143 = .ok (.getfield 256, 3) := by decide +kernel
theorem dX7_count_146 : decode cX7_count 146 = .ok (.ireturn, 1) := by decide +kernel
theorem dX7_count_147 : decode cX7_count 147 = .ok (.aload_n 0, 1) := by decide +kernel
theorem dX7_count_148 : decode cX7_count 148 = .ok (.getfield 22, 3) := by decide +kernel
theorem dX7_count_151 : decode cX7_count 151 = .ok (.getfield 181, 3) := by decide +kernel
theorem dX7_count_154 : decode cX7_count 154 = .ok (.ireturn, 1) := by decide +kernel
theorem dX7_count_155 : decode cX7_count 155 = .ok (.aload_n 0, 1) := by decide +kernel
theorem dX7_count_156 : decode cX7_count 156 = .ok (.getfield 29, 3) := by decide +kernel
theorem dX7_count_159 : decode cX7_count 159 = .ok (.getfield 167, 3) := by decide +kernel
theorem dX7_count_162 : decode cX7_count 162 = .ok (.ireturn, 1) := by decide +kernel
theorem dX7_count_163 : decode cX7_count 163 = .ok (.ldc 51, 2) := by decide +kernel
theorem dX7_count_165 : decode cX7_count 165 = .ok (.ireturn, 1) := by decide +kernel
theorem dX7_doJob_0 : decode cX7_doJob 0 = .ok (.aload_n 0, 1) := by decide +kernel
theorem dX7_doJob_1 : decode cX7_doJob 1 = .ok (.getfield 10, 3) := by decide +kernel
theorem dX7_doJob_4 : decode cX7_doJob 4 = .ok (.getfield 125, 3) := by decide +kernel
theorem dX7_doJob_7 : decode cX7_doJob 7 = .ok (.iload_n 1, 1) := by decide +kernel
theorem dX7_doJob_8 : decode cX7_doJob 8 = .ok (.iconst 1, 1) := by decide +kernel
theorem dX7_doJob_9 : decode cX7_doJob 9 = .ok (.invokevirtual 153, 3) := by decide +kernel
theorem dX7_doJob_12 : decode cX7_doJob 12 = .ok (.istore_n 2, 1) := by decide +kernel
theorem dX7_doJob_13 : decode cX7_doJob 13 = .ok (.aload_n 0, 1) := by decide +kernel
theorem dX7_doJob_14 : decode cX7_doJob 14 = .ok (.getfield 10, 3) := by decide +kernel
theorem dX7_doJob_17 : decode cX7_doJob 17 = .ok (.getfield 125, 3) := by decide +kernel
theorem dX7_doJob_20 : decode cX7_doJob 20 = .ok (.iload_n 1, 1) := by decide +kernel
theorem dX7_doJob_21 : decode cX7_doJob 21 = .ok (.iconst 2, 1) := by decide +kernel
theorem dX7_doJob_22 : decode cX7_doJob 22 = .ok (.invokevirtual 153, 3) := by decide +kernel
theorem dX7_doJob_25 : decode cX7_doJob 25 = .ok (.istore_n 3, 1) := by decide +kernel
theorem dX7_doJob_26 : decode cX7_doJob 26 = .ok (.aload_n 0, 1) := by decide +kernel
theorem dX7_doJob_27 : decode cX7_doJob 27 = .ok (.getfield 10, 3) := by decide +kernel
theorem dX7_doJob_30 : decode cX7_doJob 30 = .ok (.iload_n 3, 1) := by decide +kernel
theorem dX7_doJob_31 : decode cX7_doJob 31 = .ok (.invokevirtual 78, 3) := by decide +kernel
theorem dX7_doJob_34 : decode cX7_doJob 34 = .ok (.astore 4, 2) := by decide +kernel
theorem dX7_doJob_36 : decode cX7_doJob 36 = .ok (.aload_n 0, 1) := by decide +kernel
theorem dX7_doJob_37 : decode cX7_doJob 37 = .ok (.getfield 10, 3) := by decide +kernel
theorem dX7_doJob_40 : decode cX7_doJob 40 = .ok (.getfield 125, 3) := by decide +kernel
theorem dX7_doJob_43 : decode cX7_doJob 43 = .ok (.iload_n 1, 1) := by decide +kernel
theorem dX7_doJob_44 : decode cX7_doJob 44 = .ok (.invokevirtual 259, 3) := by decide +kernel
theorem dX7_doJob_47 : decode cX7_doJob 47 = .ok (.aload 4, 2) := by decide +kernel
theorem dX7_doJob_49 : decode cX7_doJob 49 = .ok (.ifnonnull 4, 3) := by decide +kernel
theorem dX7_doJob_52 : decode cX7_doJob 52 = .ok (.return_, 1) := by decide +kernel
theorem dX7_doJob_53 : decode cX7_doJob 53 = .ok (.aload_n 0, 1) := by decide +kernel
theorem dX7_doJob_54 : decode cX7_doJob 54 = .ok (.getfield 10, 3) := by decide +kernel
theorem dX7_doJob_57 : decode cX7_doJob 57 = .ok (.aload 4, 2) := by decide +kernel
theorem dX7_doJob_59 : decode cX7_doJob 59 = .ok (.getfield 185, 3) := by decide +kernel
theorem dX7_doJob_62 : decode cX7_doJob 62 = .ok (.invokevirtual 262, 3) := by decide +kernel
theorem dX7_doJob_65 : decode cX7_doJob 65 = .ok (.aload_n 0, 1) := by decide +kernel
theorem dX7_doJob_66 : decode cX7_doJob 66 = .ok (.getfield 43, 3) := by decide +kernel
theorem dX7_doJob_69 : decode cX7_doJob 69 = .ok (.aload 4, 2) := by decide +kernel
theorem dX7_doJob_71 : decode cX7_doJob 71 = .ok (.aload_n 0, 1) := by decide +kernel
theorem dX7_doJob_72 : decode cX7_doJob 72 = .ok (.getfield 10, 3) := by decide +kernel
theorem dX7_doJob_75 : decode cX7_doJob 75 = .ok (.getfield 97, 3) := by decide +kernel
theorem dX7_doJob_78 : decode cX7_doJob 78 = .ok (.invokevirtual 100, 3) := by decide +kernel
theorem dX7_doJob_81 : decode cX7_doJob 81 = .ok (.aload_n 0, 1) := by decide +kernel
theorem dX7_doJob_82 : decode cX7_doJob 82 = .ok (.iload_n 2, 1) := by decide +kernel
theorem dX7_doJob_83 : decode cX7_doJob 83 = .ok (.aload 4, 2) := by decide +kernel
theorem dX7_doJob_85 : decode cX7_doJob 85 = .ok (.invokevirtual 265, 3) := by decide +kernel
theorem dX7_doJob_88 : decode cX7_doJob 88 = .ok (.istore 5, 2) := by decide +kernel
theorem dX7_doJob_90 : decode cX7_doJob 90 = .ok (.ldc 96, 2) := by decide +kernel
theorem dX7_doJob_92 : decode cX7_doJob 92 = .ok (.istore 6, 2) := by decide +kernel
theorem dX7_doJob_94 : decode cX7_doJob 94 = .ok (.iload 5, 2) := by decide +kernel
theorem dX7_doJob_96 : decode cX7_doJob 96 = .ok (.ifCond .ne 15, 3) := by decide +kernel
theorem dX7_doJob_99 : decode cX7_doJob 99 = .ok (.aload_n 0, 1) := by decide +kernel
theorem dX7_doJob_100 : decode cX7_doJob 100 = .ok (.iload_n 2, 1) := by decide +kernel
theorem dX7_doJob_101 : decode cX7_doJob 101 = .ok (.aload 4, 2) := by decide +kernel
theorem dX7_doJob_103 : decode cX7_doJob 103 = .ok (.invokevirtual 269, 3) := by decide +kernel
theorem dX7_doJob_106 : decode cX7_doJob 106 = .ok (.istore 6, 2) := by decide +kernel
theorem dX7_doJob_108 : decode cX7_doJob 108 = .ok (.goto 22, 3) := by decide +kernel
theorem dX7_doJob_111 : decode cX7_doJob 111 = .ok (.aload_n 0, 1) := by decide +kernel
theorem dX7_doJob_112 : decode cX7_doJob 112 = .ok (.iload 5, 2) := by decide +kernel
theorem dX7_doJob_114 : decode cX7_doJob 114 = .ok (.putfield 256, 3) := by decide +kernel
theorem dX7_doJob_117 : decode cX7_doJob 117 = .ok (.aload_n 0, 1) := by decide +kernel
theorem dX7_doJob_118 : decode cX7_doJob 118 = .ok (.getfield 10, 3) := by decide +kernel
theorem dX7_doJob_121 : decode cX7_doJob 121 = .ok (.dup, 1) := by decide +kernel
theorem dX7_doJob_122 : decode cX7_doJob 122 = .ok (.getfield 160, 3) := by decide +kernel
theorem dX7_doJob_125 : decode cX7_doJob 125 = .ok (.iconst 1, 1) := by decide +kernel
theorem dX7_doJob_126 : decode cX7_doJob 126 = .ok (.iadd, 1) := by decide +kernel
theorem dX7_doJob_127 : decode cX7_doJob 127 = .ok (.putfield 160, 3) := by decide +kernel
theorem dX7_doJob_130 : decode cX7_doJob 130 = .ok (.aload_n 0, 1) := by decide +kernel
theorem dX7_doJob_131 : decode cX7_doJob 131 = .ok (.getfield 10, 3) := by decide +kernel
theorem dX7_doJob_134 : decode cX7_doJob 134 = .ok (.dup, 1) := by decide +kernel
theorem dX7_doJob_135 : decode cX7_doJob 135 = .ok (.getfield 251, 3) := by decide +kernel
theorem dX7_doJob_138 : decode cX7_doJob 138 = .ok (.iconst 1, 1) := by decide +kernel
theorem dX7_doJob_139 : decode cX7_doJob 139 = .ok (.iadd, 1) := by decide +kernel
theorem dX7_doJob_140 : decode cX7_doJob 140 = .ok (.putfield 251, 3) := by decide +kernel
theorem dX7_doJob_143 : decode cX7_doJob 143 = .ok (.aload_n 0, 1) := by decide +kernel
theorem dX7_doJob_144 : decode cX7_doJob 144 = .ok (.getfield 10, 3) := by decide +kernel
theorem dX7_doJob_147 : decode cX7_doJob 147 = .ok (.iload_n 2, 1) := by decide +kernel
theorem dX7_doJob_148 : decode cX7_doJob 148 = .ok (.iload_n 3, 1) := by decide +kernel
theorem dX7_doJob_149 : decode cX7_doJob 149 = .ok (.iload 6, 2) := by decide +kernel
theorem dX7_doJob_151 : decode cX7_doJob 151 = .ok (.iload 5, 2) := by decide +kernel
theorem dX7_doJob_153 : decode cX7_doJob 153 = .ok (.invokevirtual 272, 3) := by decide +kernel
theorem dX7_doJob_156 : decode cX7_doJob 156 = .ok (.return_, 1) := by decide +kernel
theorem dX7_reasonAgainst_0 : decode cX7_reasonAgainst 0 = .ok (.iload_n 1, 1) := by decide +kernel
theorem dX7_reasonAgainst_1 : decode cX7_reasonAgainst 1 = .ok (.lookupswitch 49 #[(0, 27), (1, 43)], 27) := by decide +kernel
theorem dX7_reasonAgainst_28 : decode cX7_reasonAgainst 28 = .ok (.aload_n 0, 1) := by decide +kernel
theorem dX7_reasonAgainst_29 : decode cX7_reasonAgainst 29 = .ok (.getfield 43, 3) := by decide +kernel
theorem dX7_reasonAgainst_32 : decode cX7_reasonAgainst 32 = .ok (.getfield 200, 3) := by decide +kernel
theorem dX7_reasonAgainst_35 : decode cX7_reasonAgainst 35 = .ok (.ifCond .le 7, 3) := by decide +kernel
theorem dX7_reasonAgainst_38 : decode cX7_reasonAgainst 38 = .ok (.iconst 2, 1) := by decide +kernel
theorem dX7_reasonAgainst_39 : decode cX7_reasonAgainst 39 = .ok (.goto 4, 3) := by decide +kernel
theorem dX7_reasonAgainst_42 : decode cX7_reasonAgainst 42 = .ok (.iconst 0, 1) := by decide +kernel
theorem dX7_reasonAgainst_43 : decode cX7_reasonAgainst 43 = .ok (.ireturn, 1) := by decide +kernel
theorem dX7_reasonAgainst_44 : decode cX7_reasonAgainst 44 = .ok (.aload_n 0, 1) := by decide +kernel
theorem dX7_reasonAgainst_45 : decode cX7_reasonAgainst 45 = .ok (.aload_n 2, 1) := by decide +kernel
theorem dX7_reasonAgainst_46 : decode cX7_reasonAgainst 46 = .ok (.invokevirtual 276, 3) := by decide +kernel
theorem dX7_reasonAgainst_49 : decode cX7_reasonAgainst 49 = .ok (.ireturn, 1) := by decide +kernel
theorem dX7_reasonAgainst_50 : decode cX7_reasonAgainst 50 = .ok (.aload_n 0, 1) := by decide +kernel
theorem dX7_reasonAgainst_51 : decode cX7_reasonAgainst 51 = .ok (.invokevirtual 280, 3) := by decide +kernel
theorem dX7_reasonAgainst_54 : decode cX7_reasonAgainst 54 = .ok (.ireturn, 1) := by decide +kernel
theorem dX7_reasonAgainstBalance_0 : decode cX7_reasonAgainstBalance 0 = .ok (.aload_n 1, 1) := by decide +kernel
theorem dX7_reasonAgainstBalance_1 : decode cX7_reasonAgainstBalance 1 = .ok (.getfield 118, 3) := by decide +kernel
theorem dX7_reasonAgainstBalance_4 : decode cX7_reasonAgainstBalance 4 = .ok (.ifCond .eq 5, 3) := by decide +kernel
theorem dX7_reasonAgainstBalance_7 : decode cX7_reasonAgainstBalance 7 = .ok (.iconst 4, 1) := by decide +kernel
theorem dX7_reasonAgainstBalance_8 : decode cX7_reasonAgainstBalance 8 = .ok (.ireturn, 1) := by decide +kernel
theorem dX7_reasonAgainstBalance_9 : decode cX7_reasonAgainstBalance 9 = .ok (.iconst 0, 1) := by decide +kernel
theorem dX7_reasonAgainstBalance_10 : decode cX7_reasonAgainstBalance 10 = .ok (.istore_n 2, 1) := by decide +kernel
theorem dX7_reasonAgainstBalance_11 : decode cX7_reasonAgainstBalance 11 = .ok (.iload_n 2, 1) := by decide +kernel
theorem dX7_reasonAgainstBalance_12 : decode cX7_reasonAgainstBalance 12 = .ok (.iconst 3, 1) := by decide +kernel
theorem dX7_reasonAgainstBalance_13 : decode cX7_reasonAgainstBalance 13 = .ok (.if_icmp .ge 36, 3) := by decide +kernel
theorem dX7_reasonAgainstBalance_16 : decode cX7_reasonAgainstBalance 16 = .ok (.aload_n 1, 1) := by decide +kernel
theorem dX7_reasonAgainstBalance_17 : decode cX7_reasonAgainstBalance 17 = .ok (.getfield 209, 3) := by decide +kernel
theorem dX7_reasonAgainstBalance_20 : decode cX7_reasonAgainstBalance 20 = .ok (.iload_n 2, 1) := by decide +kernel
theorem dX7_reasonAgainstBalance_21 : decode cX7_reasonAgainstBalance 21 = .ok (.iaload, 1) := by decide +kernel
theorem dX7_reasonAgainstBalance_22 : decode cX7_reasonAgainstBalance 22 = .ok (.aload_n 0, 1) := by decide +kernel
theorem dX7_reasonAgainstBalance_23 : decode cX7_reasonAgainstBalance 23 = .ok (.getfield 43, 3) := by decide +kernel
theorem dX7_reasonAgainstBalance_26 : decode cX7_reasonAgainstBalance 26 = .ok (.getfield 206, 3) := by decide +kernel
theorem dX7_reasonAgainstBalance_29 : decode cX7_reasonAgainstBalance 29 = .ok (.iload_n 2, 1) := by decide +kernel
theorem dX7_reasonAgainstBalance_30 : decode cX7_reasonAgainstBalance 30 = .ok (.iaload, 1) := by decide +kernel
theorem dX7_reasonAgainstBalance_31 : decode cX7_reasonAgainstBalance 31 = .ok (.iadd, 1) := by decide +kernel
theorem dX7_reasonAgainstBalance_32 : decode cX7_reasonAgainstBalance 32 = .ok (.sipush 15000, 3) := by decide +kernel
theorem dX7_reasonAgainstBalance_35 : decode cX7_reasonAgainstBalance 35 = .ok (.invokestatic 83, 3) := by decide +kernel
theorem dX7_reasonAgainstBalance_38 : decode cX7_reasonAgainstBalance 38 = .ok (.ifCond .ne 5, 3) := by decide +kernel
theorem dX7_reasonAgainstBalance_41 : decode cX7_reasonAgainstBalance 41 = .ok (.iconst 3, 1) := by decide +kernel
theorem dX7_reasonAgainstBalance_42 : decode cX7_reasonAgainstBalance 42 = .ok (.ireturn, 1) := by decide +kernel
theorem dX7_reasonAgainstBalance_43 : decode cX7_reasonAgainstBalance 43 = .ok (.iinc 2 1, 3) := by decide +kernel
theorem dX7_reasonAgainstBalance_46 : decode cX7_reasonAgainstBalance 46 = .ok (.goto (-35), 3) := by decide +kernel
theorem dX7_reasonAgainstBalance_49 : decode cX7_reasonAgainstBalance 49 = .ok (.iconst 0, 1) := by decide +kernel
theorem dX7_reasonAgainstBalance_50 : decode cX7_reasonAgainstBalance 50 = .ok (.ireturn, 1) := by decide +kernel
theorem dX7_reasonAgainstCheck_0 : decode cX7_reasonAgainstCheck 0 = .ok (.aload_n 0, 1) := by decide +kernel
theorem dX7_reasonAgainstCheck_1 : decode cX7_reasonAgainstCheck 1 = .ok (.getfield 43, 3) := by decide +kernel
theorem dX7_reasonAgainstCheck_4 : decode cX7_reasonAgainstCheck 4 = .ok (.getfield 283, 3) := by decide +kernel
theorem dX7_reasonAgainstCheck_7 : decode cX7_reasonAgainstCheck 7 = .ok (.ifCond .eq 5, 3) := by decide +kernel
theorem dX7_reasonAgainstCheck_10 : decode cX7_reasonAgainstCheck 10 = .ok (.iconst 2, 1) := by decide +kernel
theorem dX7_reasonAgainstCheck_11 : decode cX7_reasonAgainstCheck 11 = .ok (.ireturn, 1) := by decide +kernel
theorem dX7_reasonAgainstCheck_12 : decode cX7_reasonAgainstCheck 12 = .ok (.iconst 0, 1) := by decide +kernel
theorem dX7_reasonAgainstCheck_13 : decode cX7_reasonAgainstCheck 13 = .ok (.istore_n 1, 1) := by decide +kernel
theorem dX7_reasonAgainstCheck_14 : decode cX7_reasonAgainstCheck 14 = .ok (.iload_n 1, 1) := by decide +kernel
theorem dX7_reasonAgainstCheck_15 : decode cX7_reasonAgainstCheck 15 = .ok (.iconst 3, 1) := by decide +kernel
theorem dX7_reasonAgainstCheck_16 : decode cX7_reasonAgainstCheck 16 = .ok (.if_icmp .ge 23, 3) := by decide +kernel
theorem dX7_reasonAgainstCheck_19 : decode cX7_reasonAgainstCheck 19 = .ok (.aload_n 0, 1) := by decide +kernel
theorem dX7_reasonAgainstCheck_20 : decode cX7_reasonAgainstCheck 20 = .ok (.getfield 43, 3) := by decide +kernel
theorem dX7_reasonAgainstCheck_23 : decode cX7_reasonAgainstCheck 23 = .ok (.getfield 218, 3) := by decide +kernel
theorem dX7_reasonAgainstCheck_26 : decode cX7_reasonAgainstCheck 26 = .ok (.iload_n 1, 1) := by decide +kernel
theorem dX7_reasonAgainstCheck_27 : decode cX7_reasonAgainstCheck 27 = .ok (.iaload, 1) := by decide +kernel
theorem dX7_reasonAgainstCheck_28 : decode cX7_reasonAgainstCheck 28 = .ok (.ifCond .ne 5, 3) := by decide +kernel
theorem dX7_reasonAgainstCheck_31 : decode cX7_reasonAgainstCheck 31 = .ok (.iconst 5, 1) := by decide +kernel
theorem dX7_reasonAgainstCheck_32 : decode cX7_reasonAgainstCheck 32 = .ok (.ireturn, 1) := by decide +kernel
theorem dX7_reasonAgainstCheck_33 : decode cX7_reasonAgainstCheck 33 = .ok (.iinc 1 1, 3) := by decide +kernel
theorem dX7_reasonAgainstCheck_36 : decode cX7_reasonAgainstCheck 36 = .ok (.goto (-22), 3) := by decide +kernel
theorem dX7_reasonAgainstCheck_39 : decode cX7_reasonAgainstCheck 39 = .ok (.iconst 0, 1) := by decide +kernel
theorem dX7_reasonAgainstCheck_40 : decode cX7_reasonAgainstCheck 40 = .ok (.ireturn, 1) := by decide +kernel
theorem dX7_perform_0 : decode cX7_perform 0 = .ok (.iload_n 1, 1) := by decide +kernel
theorem dX7_perform_1 : decode cX7_perform 1 = .ok (.lookupswitch 49 #[(0, 27), (1, 43)], 27) := by decide +kernel
theorem dX7_perform_28 : decode cX7_perform 28 = .ok (.aload_n 0, 1) := by decide +kernel
theorem dX7_perform_29 : decode cX7_perform 29 = .ok (.getfield 43, 3) := by decide +kernel
theorem dX7_perform_32 : decode cX7_perform 32 = .ok (.getfield 221, 3) := by decide +kernel
theorem dX7_perform_35 : decode cX7_perform 35 = .ok (.aload_n 0, 1) := by decide +kernel
theorem dX7_perform_36 : decode cX7_perform 36 = .ok (.getfield 43, 3) := by decide +kernel
theorem dX7_perform_39 : decode cX7_perform 39 = .ok (.getfield 224, 3) := by decide +kernel
theorem dX7_perform_42 : decode cX7_perform 42 = .ok (.iadd, 1) := by decide +kernel
theorem dX7_perform_43 : decode cX7_perform 43 = .ok (.ireturn, 1) := by decide +kernel
theorem dX7_perform_44 : decode cX7_perform 44 = .ok (.aload_n 0, 1) := by decide +kernel
theorem dX7_perform_45 : decode cX7_perform 45 = .ok (.aload_n 2, 1) := by decide +kernel
theorem dX7_perform_46 : decode cX7_perform 46 = .ok (.invokevirtual 286, 3) := by decide +kernel
theorem dX7_perform_49 : decode cX7_perform 49 = .ok (.ireturn, 1) := by decide +kernel
theorem dX7_perform_50 : decode cX7_perform 50 = .ok (.aload_n 0, 1) := by decide +kernel
theorem dX7_perform_51 : decode cX7_perform 51 = .ok (.aload_n 2, 1) := by decide +kernel
theorem dX7_perform_52 : decode cX7_perform 52 = .ok (.invokevirtual 289, 3) := by decide +kernel
theorem dX7_perform_55 : decode cX7_perform 55 = .ok (.ireturn, 1) := by decide +kernel
theorem dX7_setZeros_0 : decode cX7_setZeros 0 = .ok (.iconst 0, 1) := by decide +kernel
theorem dX7_setZeros_1 : decode cX7_setZeros 1 = .ok (.istore_n 2, 1) := by decide +kernel
theorem dX7_setZeros_2 : decode cX7_setZeros 2 = .ok (.iconst 0, 1) := by decide +kernel
theorem dX7_setZeros_3 : decode cX7_setZeros 3 = .ok (.istore_n 3, 1) := by decide +kernel
theorem dX7_setZeros_4 : decode cX7_setZeros 4 = .ok (.iload_n 3, 1) := by decide +kernel
theorem dX7_setZeros_5 : decode cX7_setZeros 5 = .ok (.iconst 3, 1) := by decide +kernel
theorem dX7_setZeros_6 : decode cX7_setZeros 6 = .ok (.if_icmp .ge 49, 3) := by decide +kernel
theorem dX7_setZeros_9 : decode cX7_setZeros 9 = .ok (.aload_n 1, 1) := by decide +kernel
theorem dX7_setZeros_10 : decode cX7_setZeros 10 = .ok (.getfield 209, 3) := by decide +kernel
theorem dX7_setZeros_13 : decode cX7_setZeros 13 = .ok (.iload_n 3, 1) := by decide +kernel
theorem dX7_setZeros_14 : decode cX7_setZeros 14 = .ok (.iaload, 1) := by decide +kernel
theorem dX7_setZeros_15 : decode cX7_setZeros 15 = .ok (.aload_n 0, 1) := by decide +kernel
theorem dX7_setZeros_16 : decode cX7_setZeros 16 = .ok (.getfield 43, 3) := by decide +kernel
theorem dX7_setZeros_19 : decode cX7_setZeros 19 = .ok (.getfield 206, 3) := by decide +kernel
theorem dX7_setZeros_22 : decode cX7_setZeros 22 = .ok (.iload_n 3, 1) := by decide +kernel
theorem dX7_setZeros_23 : decode cX7_setZeros 23 = .ok (.iaload, 1) := by decide +kernel
theorem dX7_setZeros_24 : decode cX7_setZeros 24 = .ok (.iadd, 1) := by decide +kernel
theorem dX7_setZeros_25 : decode cX7_setZeros 25 = .ok (.istore 4, 2) := by decide +kernel
theorem dX7_setZeros_27 : decode cX7_setZeros 27 = .ok (.iload 4, 2) := by decide +kernel
theorem dX7_setZeros_29 : decode cX7_setZeros 29 = .ok (.aload_n 1, 1) := by decide +kernel
theorem dX7_setZeros_30 : decode cX7_setZeros 30 = .ok (.getfield 209, 3) := by decide +kernel
theorem dX7_setZeros_33 : decode cX7_setZeros 33 = .ok (.iload_n 3, 1) := by decide +kernel
theorem dX7_setZeros_34 : decode cX7_setZeros 34 = .ok (.iaload, 1) := by decide +kernel
theorem dX7_setZeros_35 : decode cX7_setZeros 35 = .ok (.if_icmp .eq 14, 3) := by decide +kernel
theorem dX7_setZeros_38 : decode cX7_setZeros 38 = .ok (.aload_n 1, 1) := by decide +kernel
theorem dX7_setZeros_39 : decode cX7_setZeros 39 = .ok (.getfield 209, 3) := by decide +kernel
theorem dX7_setZeros_42 : decode cX7_setZeros 42 = .ok (.iload_n 3, 1) := by decide +kernel
theorem dX7_setZeros_43 : decode cX7_setZeros 43 = .ok (.iload 4, 2) := by decide +kernel
theorem dX7_setZeros_45 : decode cX7_setZeros 45 = .ok (.iastore, 1) := by decide +kernel
theorem dX7_setZeros_46 : decode cX7_setZeros 46 = .ok (.iinc 2 1, 3) := by decide +kernel
theorem dX7_setZeros_49 : decode cX7_setZeros 49 = .ok (.iinc 3 1, 3) := by decide +kernel
theorem dX7_setZeros_52 : decode cX7_setZeros 52 = .ok (.goto (-48), 3) := by decide +kernel
theorem dX7_setZeros_55 : decode cX7_setZeros 55 = .ok (.iload_n 2, 1) := by decide +kernel
theorem dX7_setZeros_56 : decode cX7_setZeros 56 = .ok (.ireturn, 1) := by decide +kernel
theorem dX7_setGains_0 : decode cX7_setGains 0 = .ok (.iconst 0, 1) := by decide +kernel
theorem dX7_setGains_1 : decode cX7_setGains 1 = .ok (.istore_n 2, 1) := by decide +kernel
theorem dX7_setGains_2 : decode cX7_setGains 2 = .ok (.iconst 0, 1) := by decide +kernel
theorem dX7_setGains_3 : decode cX7_setGains 3 = .ok (.istore_n 3, 1) := by decide +kernel
theorem dX7_setGains_4 : decode cX7_setGains 4 = .ok (.iload_n 3, 1) := by decide +kernel
theorem dX7_setGains_5 : decode cX7_setGains 5 = .ok (.iconst 3, 1) := by decide +kernel
theorem dX7_setGains_6 : decode cX7_setGains 6 = .ok (.if_icmp .ge 59, 3) := by decide +kernel
theorem dX7_setGains_9 : decode cX7_setGains 9 = .ok (.aload_n 0, 1) := by decide +kernel
theorem dX7_setGains_10 : decode cX7_setGains 10 = .ok (.getfield 43, 3) := by decide +kernel
theorem dX7_setGains_13 : decode cX7_setGains 13 = .ok (.getfield 197, 3) := by decide +kernel
theorem dX7_setGains_16 : decode cX7_setGains 16 = .ok (.i2l, 1) := by decide +kernel
theorem dX7_setGains_17 : decode cX7_setGains 17 = .ok (.ldc2_w 292, 3) := by decide +kernel
theorem dX7_setGains_20 : decode cX7_setGains 20 = .ok (.lmul, 1) := by decide +kernel
theorem dX7_setGains_21 : decode cX7_setGains 21 = .ok (.aload_n 0, 1) := by decide +kernel
theorem dX7_setGains_22 : decode cX7_setGains 22 = .ok (.getfield 43, 3) := by decide +kernel
theorem dX7_setGains_25 : decode cX7_setGains 25 = .ok (.getfield 218, 3) := by decide +kernel
theorem dX7_setGains_28 : decode cX7_setGains 28 = .ok (.iload_n 3, 1) := by decide +kernel
theorem dX7_setGains_29 : decode cX7_setGains 29 = .ok (.iaload, 1) := by decide +kernel
theorem dX7_setGains_30 : decode cX7_setGains 30 = .ok (.i2l, 1) := by decide +kernel
theorem dX7_setGains_31 : decode cX7_setGains 31 = .ok (.invokestatic 294, 3) := by decide +kernel
theorem dX7_setGains_34 : decode cX7_setGains 34 = .ok (.l2i, 1) := by decide +kernel
theorem dX7_setGains_35 : decode cX7_setGains 35 = .ok (.istore 4, 2) := by decide +kernel
theorem dX7_setGains_37 : decode cX7_setGains 37 = .ok (.iload 4, 2) := by decide +kernel
theorem dX7_setGains_39 : decode cX7_setGains 39 = .ok (.aload_n 1, 1) := by decide +kernel
theorem dX7_setGains_40 : decode cX7_setGains 40 = .ok (.getfield 212, 3) := by decide +kernel
theorem dX7_setGains_43 : decode cX7_setGains 43 = .ok (.iload_n 3, 1) := by decide +kernel
theorem dX7_setGains_44 : decode cX7_setGains 44 = .ok (.iaload, 1) := by decide +kernel
theorem dX7_setGains_45 : decode cX7_setGains 45 = .ok (.if_icmp .eq 14, 3) := by decide +kernel
theorem dX7_setGains_48 : decode cX7_setGains 48 = .ok (.aload_n 1, 1) := by decide +kernel
theorem dX7_setGains_49 : decode cX7_setGains 49 = .ok (.getfield 212, 3) := by decide +kernel
theorem dX7_setGains_52 : decode cX7_setGains 52 = .ok (.iload_n 3, 1) := by decide +kernel
theorem dX7_setGains_53 : decode cX7_setGains 53 = .ok (.iload 4, 2) := by decide +kernel
theorem dX7_setGains_55 : decode cX7_setGains 55 = .ok (.iastore, 1) := by decide +kernel
theorem dX7_setGains_56 : decode cX7_setGains 56 = .ok (.iinc 2 1, 3) := by decide +kernel
theorem dX7_setGains_59 : decode cX7_setGains 59 = .ok (.iinc 3 1, 3) := by decide +kernel
theorem dX7_setGains_62 : decode cX7_setGains 62 = .ok (.goto (-58), 3) := by decide +kernel
theorem dX7_setGains_65 : decode cX7_setGains 65 = .ok (.iload_n 2, 1) := by decide +kernel
theorem dX7_setGains_66 : decode cX7_setGains 66 = .ok (.ireturn, 1) := by decide +kernel
theorem dX7_refuse_0 : decode cX7_refuse 0 = .ok (.aload_n 0, 1) := by decide +kernel
theorem dX7_refuse_1 : decode cX7_refuse 1 = .ok (.iload_n 1, 1) := by decide +kernel
theorem dX7_refuse_2 : decode cX7_refuse 2 = .ok (.putfield 256, 3) := by decide +kernel
theorem dX7_refuse_5 : decode cX7_refuse 5 = .ok (.ldc_w 298, 3) := by decide +kernel
theorem dX7_refuse_8 : decode cX7_refuse 8 = .ok (.ireturn, 1) := by decide +kernel
theorem dX7_isWithin_0 : decode cX7_isWithin 0 = .ok (.iload_n 0, 1) := by decide +kernel
theorem dX7_isWithin_1 : decode cX7_isWithin 1 = .ok (.iload_n 1, 1) := by decide +kernel
theorem dX7_isWithin_2 : decode cX7_isWithin 2 = .ok (.if_icmp .lt 12, 3) := by decide +kernel
theorem dX7_isWithin_5 : decode cX7_isWithin 5 = .ok (.iload_n 0, 1) := by decide +kernel
theorem dX7_isWithin_6 : decode cX7_isWithin 6 = .ok (.iload_n 2, 1) := by decide +kernel
theorem dX7_isWithin_7 : decode cX7_isWithin 7 = .ok (.if_icmp .gt 7, 3) := by decide +kernel
theorem dX7_isWithin_10 : decode cX7_isWithin 10 = .ok (.iconst 1, 1) := by decide +kernel
theorem dX7_isWithin_11 : decode cX7_isWithin 11 = .ok (.goto 4, 3) := by decide +kernel
theorem dX7_isWithin_14 : decode cX7_isWithin 14 = .ok (.iconst 0, 1) := by decide +kernel
theorem dX7_isWithin_15 : decode cX7_isWithin 15 = .ok (.ireturn, 1) := by decide +kernel
theorem dX7_isAround0_0 : decode cX7_isAround0 0 = .ok (.iload_n 0, 1) := by decide +kernel
theorem dX7_isAround0_1 : decode cX7_isAround0 1 = .ok (.iload_n 1, 1) := by decide +kernel
theorem dX7_isAround0_2 : decode cX7_isAround0 2 = .ok (.ineg, 1) := by decide +kernel
theorem dX7_isAround0_3 : decode cX7_isAround0 3 = .ok (.iload_n 1, 1) := by decide +kernel
theorem dX7_isAround0_4 : decode cX7_isAround0 4 = .ok (.invokestatic 47, 3) := by decide +kernel
theorem dX7_isAround0_7 : decode cX7_isAround0 7 = .ok (.ireturn, 1) := by decide +kernel
theorem dX7_quotient_0 : decode cX7_quotient 0 = .ok (.lload_n 2, 1) := by decide +kernel
theorem dX7_quotient_1 : decode cX7_quotient 1 = .ok (.lconst 0, 1) := by decide +kernel
theorem dX7_quotient_2 : decode cX7_quotient 2 = .ok (.lcmp, 1) := by decide +kernel
theorem dX7_quotient_3 : decode cX7_quotient 3 = .ok (.ifCond .ne 7, 3) := by decide +kernel
theorem dX7_quotient_6 : decode cX7_quotient 6 = .ok (.lconst 0, 1) := by decide +kernel
theorem dX7_quotient_7 : decode cX7_quotient 7 = .ok (.goto 6, 3) := by decide +kernel
theorem dX7_quotient_10 : decode cX7_quotient 10 = .ok (.lload_n 0, 1) := by decide +kernel
theorem dX7_quotient_11 : decode cX7_quotient 11 = .ok (.lload_n 2, 1) := by decide +kernel
theorem dX7_quotient_12 : decode cX7_quotient 12 = .ok (.ldiv, 1) := by decide +kernel
theorem dX7_quotient_13 : decode cX7_quotient 13 = .ok (.lreturn, 1) := by decide +kernel
theorem dX8_init_0 : decode cX8_init 0 = .ok (.aload_n 0, 1) := by decide +kernel
theorem dX8_init_1 : decode cX8_init 1 = .ok (.invokespecial 1, 3) := by decide +kernel
theorem dX8_init_4 : decode cX8_init 4 = .ok (.aload_n 0, 1) := by decide +kernel
theorem dX8_init_5 : decode cX8_init 5 = .ok (.sipush 298, 3) := by decide +kernel
theorem dX8_init_8 : decode cX8_init 8 = .ok (.newarray .int, 2) := by decide +kernel
theorem dX8_init_10 : decode cX8_init 10 = .ok (.putfield 7, 3) := by decide +kernel
theorem dX8_init_13 : decode cX8_init 13 = .ok (.aload_n 0, 1) := by decide +kernel
theorem dX8_init_14 : decode cX8_init 14 = .ok (.sipush 1490, 3) := by decide +kernel
theorem dX8_init_17 : decode cX8_init 17 = .ok (.newarray .int, 2) := by decide +kernel
theorem dX8_init_19 : decode cX8_init 19 = .ok (.putfield 13, 3) := by decide +kernel
theorem dX8_init_22 : decode cX8_init 22 = .ok (.aload_n 0, 1) := by decide +kernel
theorem dX8_init_23 : decode cX8_init 23 = .ok (.sipush 298, 3) := by decide +kernel
theorem dX8_init_26 : decode cX8_init 26 = .ok (.newarray .int, 2) := by decide +kernel
theorem dX8_init_28 : decode cX8_init 28 = .ok (.putfield 16, 3) := by decide +kernel
theorem dX8_init_31 : decode cX8_init 31 = .ok (.aload_n 0, 1) := by decide +kernel
theorem dX8_init_32 : decode cX8_init 32 = .ok (.iconst 3, 1) := by decide +kernel
theorem dX8_init_33 : decode cX8_init 33 = .ok (.newarray .int, 2) := by decide +kernel
theorem dX8_init_35 : decode cX8_init 35 = .ok (.putfield 19, 3) := by decide +kernel
theorem dX8_init_38 : decode cX8_init 38 = .ok (.aload_n 0, 1) := by decide +kernel
theorem dX8_init_39 : decode cX8_init 39 = .ok (.bipush 60, 2) := by decide +kernel
theorem dX8_init_41 : decode cX8_init 41 = .ok (.newarray .char, 2) := by decide +kernel
theorem dX8_init_43 : decode cX8_init 43 = .ok (.putfield 22, 3) := by decide +kernel
theorem dX8_init_46 : decode cX8_init 46 = .ok (.aload_n 0, 1) := by decide +kernel
theorem dX8_init_47 : decode cX8_init 47 = .ok (.bipush 63, 2) := by decide +kernel
theorem dX8_init_49 : decode cX8_init 49 = .ok (.newarray .int, 2) := by decide +kernel
theorem dX8_init_51 : decode cX8_init 51 = .ok (.putfield 26, 3) := by decide +kernel
theorem dX8_init_54 : decode cX8_init 54 = .ok (.aload_n 0, 1) := by decide +kernel
theorem dX8_init_55 : decode cX8_init 55 = .ok (.getfield 7, 3) := by decide +kernel
theorem dX8_init_58 : decode cX8_init 58 = .ok (.iconst 3, 1) := by decide +kernel
theorem dX8_init_59 : decode cX8_init 59 = .ok (.bipush 100, 2) := by decide +kernel
theorem dX8_init_61 : decode cX8_init 61 = .ok (.iastore, 1) := by decide +kernel
theorem dX8_init_62 : decode cX8_init 62 = .ok (.return_, 1) := by decide +kernel
theorem dX8_in_0 : decode cX8_in 0 = .ok (.iload_n 0, 1) := by decide +kernel
theorem dX8_in_1 : decode cX8_in 1 = .ok (.iload_n 1, 1) := by decide +kernel
theorem dX8_in_2 : decode cX8_in 2 = .ok (.if_icmp .lt 12, 3) := by decide +kernel
theorem dX8_in_5 : decode cX8_in 5 = .ok (.iload_n 0, 1) := by decide +kernel
theorem dX8_in_6 : decode cX8_in 6 = .ok (.iload_n 2, 1) := by decide +kernel
theorem dX8_in_7 : decode cX8_in 7 = .ok (.if_icmp .gt 7, 3) := by decide +kernel
theorem dX8_in_10 : decode cX8_in 10 = .ok (.iconst 1, 1) := by decide +kernel
theorem dX8_in_11 : decode cX8_in 11 = .ok (.goto 4, 3) := by decide +kernel
theorem dX8_in_14 : decode cX8_in 14 = .ok (.iconst 0, 1) := by decide +kernel
theorem dX8_in_15 : decode cX8_in 15 = .ok (.ireturn, 1) := by decide +kernel
theorem dX8_size_0 : decode cX8_size 0 = .ok (.iload_n 0, 1) := by decide +kernel
theorem dX8_size_1 : decode cX8_size 1 = .ok (.ifCond .ge 8, 3) := by decide +kernel
theorem dX8_size_4 : decode cX8_size 4 = .ok (.iload_n 0, 1) := by decide +kernel
theorem dX8_size_5 : decode cX8_size 5 = .ok (.ineg, 1) := by decide +kernel
theorem dX8_size_6 : decode cX8_size 6 = .ok (.goto 4, 3) := by decide +kernel
theorem dX8_size_9 : decode cX8_size 9 = .ok (.iload_n 0, 1) := by decide +kernel
theorem dX8_size_10 : decode cX8_size 10 = .ok (.ireturn, 1) := by decide +kernel
theorem dX8_save_0 : decode cX8_save 0 = .ok (.aload_n 0, 1) := by decide +kernel
theorem dX8_save_1 : decode cX8_save 1 = .ok (.getfield 29, 3) := by decide +kernel
theorem dX8_save_4 : decode cX8_save 4 = .ok (.iconst 5, 1) := by decide +kernel
theorem dX8_save_5 : decode cX8_save 5 = .ok (.if_icmp .ne 44, 3) := by decide +kernel
theorem dX8_save_8 : decode cX8_save 8 = .ok (.iconst 0, 1) := by decide +kernel
theorem dX8_save_9 : decode cX8_save 9 = .ok (.istore_n 1, 1) := by decide +kernel
theorem dX8_save_10 : decode cX8_save 10 = .ok (.iload_n 1, 1) := by decide +kernel
theorem dX8_save_11 : decode cX8_save 11 = .ok (.sipush 1192, 3) := by decide +kernel
theorem dX8_save_14 : decode cX8_save 14 = .ok (.if_icmp .ge 25, 3) := by decide +kernel
theorem dX8_save_17 : decode cX8_save 17 = .ok (.aload_n 0, 1) := by decide +kernel
theorem dX8_save_18 : decode cX8_save 18 = .ok (.getfield 13, 3) := by decide +kernel
theorem dX8_save_21 : decode cX8_save 21 = .ok (.iload_n 1, 1) := by decide +kernel
theorem dX8_save_22 : decode cX8_save 22 = .ok (.aload_n 0, 1) := by decide +kernel
theorem dX8_save_23 : decode cX8_save 23 = .ok (.getfield 13, 3) := by decide +kernel
theorem dX8_save_26 : decode cX8_save 26 = .ok (.iload_n 1, 1) := by decide +kernel
theorem dX8_save_27 : decode cX8_save 27 = .ok (.sipush 298, 3) := by decide +kernel
theorem dX8_save_30 : decode cX8_save 30 = .ok (.iadd, 1) := by decide +kernel
theorem dX8_save_31 : decode cX8_save 31 = .ok (.iaload, 1) := by decide +kernel
theorem dX8_save_32 : decode cX8_save 32 = .ok (.iastore, 1) := by decide +kernel
theorem dX8_save_33 : decode cX8_save 33 = .ok (.iinc 1 1, 3) := by decide +kernel
theorem dX8_save_36 : decode cX8_save 36 = .ok (.goto (-26), 3) := by decide +kernel
theorem dX8_save_39 : decode cX8_save 39 = .ok (.aload_n 0, 1) := by decide +kernel
theorem dX8_save_40 : decode cX8_save 40 = .ok (.dup, 1) := by decide +kernel
theorem dX8_save_41 : decode cX8_save 41 = .ok (.getfield 29, 3) := by decide +kernel
theorem dX8_save_44 : decode cX8_save 44 = .ok (.iconst 1, 1) := by decide +kernel
theorem dX8_save_45 : decode cX8_save 45 = .ok (.isub, 1) := by decide +kernel
theorem dX8_save_46 : decode cX8_save 46 = .ok (.putfield 29, 3) := by decide +kernel
theorem dX8_save_49 : decode cX8_save 49 = .ok (.iconst 0, 1) := by decide +kernel
theorem dX8_save_50 : decode cX8_save 50 = .ok (.istore_n 1, 1) := by decide +kernel
theorem dX8_save_51 : decode cX8_save 51 = .ok (.iload_n 1, 1) := by decide +kernel
theorem dX8_save_52 : decode cX8_save 52 = .ok (.sipush 298, 3) := by decide +kernel
theorem dX8_save_55 : decode cX8_save 55 = .ok (.if_icmp .ge 30, 3) := by decide +kernel
theorem dX8_save_58 : decode cX8_save 58 = .ok (.aload_n 0, 1) := by decide +kernel
theorem dX8_save_59 : decode cX8_save 59 = .ok (.getfield 13, 3) := by decide +kernel
theorem dX8_save_62 : decode cX8_save 62 = .ok (.sipush 298, 3) := by decide +kernel
theorem dX8_save_65 : decode cX8_save 65 = .ok (.aload_n 0, 1) := by decide +kernel
theorem dX8_save_66 : decode cX8_save 66 = .ok (.getfield 29, 3) := by decide +kernel
theorem dX8_save_69 : decode cX8_save 69 = .ok (.imul, 1) := by decide +kernel
theorem dX8_save_70 : decode cX8_save 70 = .ok (.iload_n 1, 1) := by decide +kernel
theorem dX8_save_71 : decode cX8_save 71 = .ok (.iadd, 1) := by decide +kernel
theorem dX8_save_72 : decode cX8_save 72 = .ok (.aload_n 0, 1) := by decide +kernel
theorem dX8_save_73 : decode cX8_save 73 = .ok (.getfield 7, 3) := by decide +kernel
theorem dX8_save_76 : decode cX8_save 76 = .ok (.iload_n 1, 1) := by decide +kernel
theorem dX8_save_77 : decode cX8_save 77 = .ok (.iaload, 1) := by decide +kernel
theorem dX8_save_78 : decode cX8_save 78 = .ok (.iastore, 1) := by decide +kernel
theorem dX8_save_79 : decode cX8_save 79 = .ok (.iinc 1 1, 3) := by decide +kernel
theorem dX8_save_82 : decode cX8_save 82 = .ok (.goto (-31), 3) := by decide +kernel
theorem dX8_save_85 : decode cX8_save 85 = .ok (.aload_n 0, 1) := by decide +kernel
theorem dX8_save_86 : decode cX8_save 86 = .ok (.dup, 1) := by decide +kernel
theorem dX8_save_87 : decode cX8_save 87 = .ok (.getfield 29, 3) := by decide +kernel
theorem dX8_save_90 : decode cX8_save 90 = .ok (.iconst 1, 1) := by decide +kernel
theorem dX8_save_91 : decode cX8_save 91 = .ok (.iadd, 1) := by decide +kernel
theorem dX8_save_92 : decode cX8_save 92 = .ok (.putfield 29, 3) := by decide +kernel
theorem dX8_save_95 : decode cX8_save 95 = .ok (.return_, 1) := by decide +kernel
theorem dX8_refuse_0 : decode cX8_refuse 0 = .ok (.aload_n 0, 1) := by decide +kernel
theorem dX8_refuse_1 : decode cX8_refuse 1 = .ok (.iload_n 1, 1) := by decide +kernel
theorem dX8_refuse_2 : decode cX8_refuse 2 = .ok (.putfield 33, 3) := by decide +kernel
theorem dX8_refuse_5 : decode cX8_refuse 5 = .ok (.ldc 36, 2) := by decide +kernel
theorem dX8_refuse_7 : decode cX8_refuse 7 = .ok (.ireturn, 1) := by decide +kernel
theorem dX8_noRosette_0 : decode cX8_noRosette 0 = .ok (.iload_n 1, 1) := by decide +kernel
theorem dX8_noRosette_1 : decode cX8_noRosette 1 = .ok (.iconst 0, 1) := by decide +kernel
theorem dX8_noRosette_2 : decode cX8_noRosette 2 = .ok (.aload_n 0, 1) := by decide +kernel
theorem dX8_noRosette_3 : decode cX8_noRosette 3 = .ok (.getfield 7, 3) := by decide +kernel
theorem dX8_noRosette_6 : decode cX8_noRosette 6 = .ok (.iconst 0, 1) := by decide +kernel
theorem dX8_noRosette_7 : decode cX8_noRosette 7 = .ok (.iaload, 1) := by decide +kernel
theorem dX8_noRosette_8 : decode cX8_noRosette 8 = .ok (.iconst 1, 1) := by decide +kernel
theorem dX8_noRosette_9 : decode cX8_noRosette 9 = .ok (.isub, 1) := by decide +kernel
theorem dX8_noRosette_10 : decode cX8_noRosette 10 = .ok (.invokestatic 37, 3) := by decide +kernel
theorem dX8_noRosette_13 : decode cX8_noRosette 13 = .ok (.ifCond .ne 7, 3) := by decide +kernel
theorem dX8_noRosette_16 : decode cX8_noRosette 16 = .ok (.iconst 1, 1) := by decide +kernel
theorem dX8_noRosette_17 : decode cX8_noRosette 17 = .ok (.goto 4, 3) := by decide +kernel
theorem dX8_noRosette_20 : decode cX8_noRosette 20 = .ok (.iconst 0, 1) := by decide +kernel
theorem dX8_noRosette_21 : decode cX8_noRosette 21 = .ok (.ireturn, 1) := by decide +kernel
theorem dX8_of_0 : decode cX8_of 0 = .ok (.aload_n 0, 1) := by decide +kernel
theorem dX8_of_1 : decode cX8_of 1 = .ok (.getfield 7, 3) := by decide +kernel
theorem dX8_of_4 : decode cX8_of 4 = .ok (.bipush 10, 2) := by decide +kernel
theorem dX8_of_6 : decode cX8_of 6 = .ok (.bipush 20, 2) := by decide +kernel
theorem dX8_of_8 : decode cX8_of 8 = .ok (.iload_n 1, 1) := by decide +kernel
theorem dX8_of_9 : decode cX8_of 9 = .ok (.imul, 1) := by decide +kernel
theorem dX8_of_10 : decode cX8_of 10 = .ok (.iadd, 1) := by decide +kernel
theorem dX8_of_11 : decode cX8_of 11 = .ok (.iload_n 2, 1) := by decide +kernel
theorem dX8_of_12 : decode cX8_of 12 = .ok (.iadd, 1) := by decide +kernel
theorem dX8_of_13 : decode cX8_of 13 = .ok (.iaload, 1) := by decide +kernel
theorem dX8_of_14 : decode cX8_of 14 = .ok (.ireturn, 1) := by decide +kernel
theorem dX8_put_0 : decode cX8_put 0 = .ok (.aload_n 0, 1) := by decide +kernel
theorem dX8_put_1 : decode cX8_put 1 = .ok (.getfield 7, 3) := by decide +kernel
theorem dX8_put_4 : decode cX8_put 4 = .ok (.bipush 10, 2) := by decide +kernel
theorem dX8_put_6 : decode cX8_put 6 = .ok (.bipush 20, 2) := by decide +kernel
theorem dX8_put_8 : decode cX8_put 8 = .ok (.iload_n 1, 1) := by decide +kernel
theorem dX8_put_9 : decode cX8_put 9 = .ok (.imul, 1) := by decide +kernel
theorem dX8_put_10 : decode cX8_put 10 = .ok (.iadd, 1) := by decide +kernel
theorem dX8_put_11 : decode cX8_put 11 = .ok (.iload_n 2, 1) := by decide +kernel
theorem dX8_put_12 : decode cX8_put 12 = .ok (.iadd, 1) := by decide +kernel
theorem dX8_put_13 : decode cX8_put 13 = .ok (.iload_n 3, 1) := by decide +kernel
theorem dX8_put_14 : decode cX8_put 14 = .ok (.iastore, 1) := by decide +kernel
theorem dX8_put_15 : decode cX8_put 15 = .ok (.return_, 1) := by decide +kernel
theorem dX8_ofGauge_0 : decode cX8_ofGauge 0 = .ok (.aload_n 0, 1) := by decide +kernel
theorem dX8_ofGauge_1 : decode cX8_ofGauge 1 = .ok (.iload_n 1, 1) := by decide +kernel
theorem dX8_ofGauge_2 : decode cX8_ofGauge 2 = .ok (.bipush 9, 2) := by decide +kernel
theorem dX8_ofGauge_4 : decode cX8_ofGauge 4 = .ok (.iconst 3, 1) := by decide +kernel
theorem dX8_ofGauge_5 : decode cX8_ofGauge 5 = .ok (.iload_n 2, 1) := by decide +kernel
