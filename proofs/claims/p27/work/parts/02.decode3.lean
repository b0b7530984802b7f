theorem dX7_pull_1 : decode cX7_pull 1 = .ok (.getfield 10, 3) := by decide +kernel
theorem dX7_pull_4 : decode cX7_pull 4 = .ok (.iload_n 1, 1) := by decide +kernel
theorem dX7_pull_5 : decode cX7_pull 5 = .ok (.invokevirtual 78, 3) := by decide +kernel
theorem dX7_pull_8 : decode cX7_pull 8 = .ok (.astore_n 3, 1) := by decide +kernel
theorem dX7_pull_9 : decode cX7_pull 9 = .ok (.aload_n 3, 1) := by decide +kernel
theorem dX7_pull_10 : decode cX7_pull 10 = .ok (.ifnonnull 6, 3) := by decide +kernel
theorem dX7_pull_13 : decode cX7_pull 13 = .ok (.ldc 82, 2) := by decide +kernel
theorem dX7_pull_15 : decode cX7_pull 15 = .ok (.ireturn, 1) := by decide +kernel
theorem dX7_pull_16 : decode cX7_pull 16 = .ok (.iload_n 2, 1) := by decide +kernel
theorem dX7_pull_17 : decode cX7_pull 17 = .ok (.iconst 0, 1) := by decide +kernel
theorem dX7_pull_18 : decode cX7_pull 18 = .ok (.bipush 23, 2) := by decide +kernel
theorem dX7_pull_20 : decode cX7_pull 20 = .ok (.invokestatic 47, 3) := by decide +kernel
theorem dX7_pull_23 : decode cX7_pull 23 = .ok (.ifCond .ne 6, 3) := by decide +kernel
theorem dX7_pull_26 : decode cX7_pull 26 = .ok (.ldc 51, 2) := by decide +kernel
theorem dX7_pull_28 : decode cX7_pull 28 = .ok (.ireturn, 1) := by decide +kernel
theorem dX7_pull_29 : decode cX7_pull 29 = .ok (.aload_n 0, 1) := by decide +kernel
theorem dX7_pull_30 : decode cX7_pull 30 = .ok (.getfield 43, 3) := by decide +kernel
theorem dX7_pull_33 : decode cX7_pull 33 = .ok (.aload_n 3, 1) := by decide +kernel
theorem dX7_pull_34 : decode cX7_pull 34 = .ok (.aload_n 0, 1) := by decide +kernel
theorem dX7_pull_35 : decode cX7_pull 35 = .ok (.getfield 10, 3) := by decide +kernel
theorem dX7_pull_38 : decode cX7_pull 38 = .ok (.getfield 97, 3) := by decide +kernel
theorem dX7_pull_41 : decode cX7_pull 41 = .ok (.invokevirtual 100, 3) := by decide +kernel
theorem dX7_pull_44 : decode cX7_pull 44 = .ok (.aload_n 0, 1) := by decide +kernel
theorem dX7_pull_45 : decode cX7_pull 45 = .ok (.getfield 43, 3) := by decide +kernel
theorem dX7_pull_48 : decode cX7_pull 48 = .ok (.iload_n 2, 1) := by decide +kernel
theorem dX7_pull_49 : decode cX7_pull 49 = .ok (.invokevirtual 233, 3) := by decide +kernel
theorem dX7_pull_52 : decode cX7_pull 52 = .ok (.ldc2_w 237, 3) := by decide +kernel
theorem dX7_pull_55 : decode cX7_pull 55 = .ok (.ldiv, 1) := by decide +kernel
theorem dX7_pull_56 : decode cX7_pull 56 = .ok (.l2i, 1) := by decide +kernel
theorem dX7_pull_57 : decode cX7_pull 57 = .ok (.ireturn, 1) := by decide +kernel
theorem dX7_job_0 : decode cX7_job 0 = .ok (.iload_n 1, 1) := by decide +kernel
theorem dX7_job_1 : decode cX7_job 1 = .ok (.ifCond .lt 12, 3) := by decide +kernel
theorem dX7_job_4 : decode cX7_job 4 = .ok (.iload_n 2, 1) := by decide +kernel
theorem dX7_job_5 : decode cX7_job 5 = .ok (.iconst 0, 1) := by decide +kernel
theorem dX7_job_6 : decode cX7_job 6 = .ok (.iconst 4, 1) := by decide +kernel
theorem dX7_job_7 : decode cX7_job 7 = .ok (.invokestatic 47, 3) := by decide +kernel
theorem dX7_job_10 : decode cX7_job 10 = .ok (.ifCond .ne 6, 3) := by decide +kernel
theorem dX7_job_13 : decode cX7_job 13 = .ok (.ldc 51, 2) := by decide +kernel
theorem dX7_job_15 : decode cX7_job 15 = .ok (.ireturn, 1) := by decide +kernel
theorem dX7_job_16 : decode cX7_job 16 = .ok (.iload_n 1, 1) := by decide +kernel
theorem dX7_job_17 : decode cX7_job 17 = .ok (.aload_n 0, 1) := by decide +kernel
theorem dX7_job_18 : decode cX7_job 18 = .ok (.getfield 10, 3) := by decide +kernel
theorem dX7_job_21 : decode cX7_job 21 = .ok (.getfield 125, 3) := by decide +kernel
theorem dX7_job_24 : decode cX7_job 24 = .ok (.getfield 129, 3) := by decide +kernel
theorem dX7_job_27 : decode cX7_job 27 = .ok (.if_icmp .lt 6, 3) := by decide +kernel
theorem dX7_job_30 : decode cX7_job 30 = .ok (.ldc 96, 2) := by decide +kernel
theorem dX7_job_32 : decode cX7_job 32 = .ok (.ireturn, 1) := by decide +kernel
theorem dX7_job_33 : decode cX7_job 33 = .ok (.aload_n 0, 1) := by decide +kernel
theorem dX7_job_34 : decode cX7_job 34 = .ok (.getfield 36, 3) := by decide +kernel
theorem dX7_job_37 : decode cX7_job 37 = .ok (.aload_n 0, 1) := by decide +kernel
theorem dX7_job_38 : decode cX7_job 38 = .ok (.getfield 10, 3) := by decide +kernel
theorem dX7_job_41 : decode cX7_job 41 = .ok (.invokevirtual 145, 3) := by decide +kernel
theorem dX7_job_44 : decode cX7_job 44 = .ok (.iconst 0, 1) := by decide +kernel
theorem dX7_job_45 : decode cX7_job 45 = .ok (.istore_n 3, 1) := by decide +kernel
theorem dX7_job_46 : decode cX7_job 46 = .ok (.iload_n 3, 1) := by decide +kernel
theorem dX7_job_47 : decode cX7_job 47 = .ok (.iload_n 1, 1) := by decide +kernel
theorem dX7_job_48 : decode cX7_job 48 = .ok (.if_icmp .gt 20, 3) := by decide +kernel
theorem dX7_job_51 : decode cX7_job 51 = .ok (.aload_n 0, 1) := by decide +kernel
theorem dX7_job_52 : decode cX7_job 52 = .ok (.getfield 36, 3) := by decide +kernel
theorem dX7_job_55 : decode cX7_job 55 = .ok (.aload_n 0, 1) := by decide +kernel
theorem dX7_job_56 : decode cX7_job 56 = .ok (.getfield 10, 3) := by decide +kernel
theorem dX7_job_59 : decode cX7_job 59 = .ok (.invokevirtual 147, 3) := by decide +kernel
theorem dX7_job_62 : decode cX7_job 62 = .ok (.iinc 3 1, 3) := by decide +kernel
theorem dX7_job_65 : decode cX7_job 65 = .ok (.goto (-19), 3) := by decide +kernel
theorem dX7_job_68 : decode cX7_job 68 = .ok (.iload_n 2, 1) := by decide +kernel
theorem dX7_job_69 : decode cX7_job 69 = .ok (.iconst 4, 1) := by decide +kernel
theorem dX7_job_70 : decode cX7_job 70 = .ok (.if_icmp .ne 13, 3) := by decide +kernel
theorem dX7_job_73 : decode cX7_job 73 = .ok (.aload_n 0, 1) := by decide +kernel
theorem dX7_job_74 : decode cX7_job 74 = .ok (.getfield 36, 3) := by decide +kernel
theorem dX7_job_77 : decode cX7_job 77 = .ok (.getfield 239, 3) := by decide +kernel
theorem dX7_job_80 : decode cX7_job 80 = .ok (.goto 21, 3) := by decide +kernel
theorem dX7_job_83 : decode cX7_job 83 = .ok (.aload_n 0, 1) := by decide +kernel
theorem dX7_job_84 : decode cX7_job 84 = .ok (.getfield 10, 3) := by decide +kernel
theorem dX7_job_87 : decode cX7_job 87 = .ok (.getfield 125, 3) := by decide +kernel
theorem dX7_job_90 : decode cX7_job 90 = .ok (.aload_n 0, 1) := by decide +kernel
theorem dX7_job_91 : decode cX7_job 91 = .ok (.getfield 36, 3) := by decide +kernel
theorem dX7_job_94 : decode cX7_job 94 = .ok (.getfield 150, 3) := by decide +kernel
theorem dX7_job_97 : decode cX7_job 97 = .ok (.iload_n 2, 1) := by decide +kernel
theorem dX7_job_98 : decode cX7_job 98 = .ok (.invokevirtual 153, 3) := by decide +kernel
theorem dX7_job_101 : decode cX7_job 101 = .ok (.ireturn, 1) := by decide +kernel
theorem dX7_record_0 : decode cX7_record 0 = .ok (.iload_n 1, 1) := by decide +kernel
theorem dX7_record_1 : decode cX7_record 1 = .ok (.ifCond .lt 12, 3) := by decide +kernel
theorem dX7_record_4 : decode cX7_record 4 = .ok (.iload_n 2, 1) := by decide +kernel
theorem dX7_record_5 : decode cX7_record 5 = .ok (.iconst 0, 1) := by decide +kernel
theorem dX7_record_6 : decode cX7_record 6 = .ok (.iconst 3, 1) := by decide +kernel
theorem dX7_record_7 : decode cX7_record 7 = .ok (.invokestatic 47, 3) := by decide +kernel
theorem dX7_record_10 : decode cX7_record 10 = .ok (.ifCond .ne 6, 3) := by decide +kernel
theorem dX7_record_13 : decode cX7_record 13 = .ok (.ldc 51, 2) := by decide +kernel
theorem dX7_record_15 : decode cX7_record 15 = .ok (.ireturn, 1) := by decide +kernel
theorem dX7_record_16 : decode cX7_record 16 = .ok (.aload_n 0, 1) := by decide +kernel
theorem dX7_record_17 : decode cX7_record 17 = .ok (.getfield 10, 3) := by decide +kernel
theorem dX7_record_20 : decode cX7_record 20 = .ok (.getfield 242, 3) := by decide +kernel
theorem dX7_record_23 : decode cX7_record 23 = .ok (.getfield 129, 3) := by decide +kernel
theorem dX7_record_26 : decode cX7_record 26 = .ok (.istore_n 3, 1) := by decide +kernel
theorem dX7_record_27 : decode cX7_record 27 = .ok (.iload_n 1, 1) := by decide +kernel
theorem dX7_record_28 : decode cX7_record 28 = .ok (.iload_n 3, 1) := by decide +kernel
theorem dX7_record_29 : decode cX7_record 29 = .ok (.if_icmp .lt 8, 3) := by decide +kernel
theorem dX7_record_32 : decode cX7_record 32 = .ok (.ldc 96, 2) := by decide +kernel
theorem dX7_record_34 : decode cX7_record 34 = .ok (.goto 19, 3) := by decide +kernel
theorem dX7_record_37 : decode cX7_record 37 = .ok (.aload_n 0, 1) := by decide +kernel
theorem dX7_record_38 : decode cX7_record 38 = .ok (.getfield 10, 3) := by decide +kernel
theorem dX7_record_41 : decode cX7_record 41 = .ok (.getfield 242, 3) := by decide +kernel
theorem dX7_record_44 : decode cX7_record 44 = .ok (.iload_n 3, 1) := by decide +kernel
theorem dX7_record_45 : decode cX7_record 45 = .ok (.iconst 1, 1) := by decide +kernel
theorem dX7_record_46 : decode cX7_record 46 = .ok (.isub, 1) := by decide +kernel
theorem dX7_record_47 : decode cX7_record 47 = .ok (.iload_n 1, 1) := by decide +kernel
theorem dX7_record_48 : decode cX7_record 48 = .ok (.isub, 1) := by decide +kernel
theorem dX7_record_49 : decode cX7_record 49 = .ok (.iload_n 2, 1) := by decide +kernel
theorem dX7_record_50 : decode cX7_record 50 = .ok (.invokevirtual 153, 3) := by decide +kernel
theorem dX7_record_53 : decode cX7_record 53 = .ok (.ireturn, 1) := by decide +kernel
theorem dX7_neighbour_0 : decode cX7_neighbour 0 = .ok (.iload_n 1, 1) := by decide +kernel
theorem dX7_neighbour_1 : decode cX7_neighbour 1 = .ok (.iconst 0, 1) := by decide +kernel
theorem dX7_neighbour_2 : decode cX7_neighbour 2 = .ok (.sipush 1000, 3) := by decide +kernel
theorem dX7_neighbour_5 : decode cX7_neighbour 5 = .ok (.invokestatic 47, 3) := by decide +kernel
theorem dX7_neighbour_8 : decode cX7_neighbour 8 = .ok (.ifCond .ne 6, 3) := by decide +kernel
theorem dX7_neighbour_11 : decode cX7_neighbour 11 = .ok (.ldc 51, 2) := by decide +kernel
theorem dX7_neighbour_13 : decode cX7_neighbour 13 = .ok (.ireturn, 1) := by decide +kernel
theorem dX7_neighbour_14 : decode cX7_neighbour 14 = .ok (.ldc 96, 2) := by decide +kernel
theorem dX7_neighbour_16 : decode cX7_neighbour 16 = .ok (.istore_n 3, 1) := by decide +kernel
theorem dX7_neighbour_17 : decode cX7_neighbour 17 = .ok (.sipush 1001, 3) := by decide +kernel
theorem dX7_neighbour_20 : decode cX7_neighbour 20 = .ok (.istore 4, 2) := by decide +kernel
theorem dX7_neighbour_22 : decode cX7_neighbour 22 = .ok (.iconst 0, 1) := by decide +kernel
theorem dX7_neighbour_23 : decode cX7_neighbour 23 = .ok (.istore 5, 2) := by decide +kernel
theorem dX7_neighbour_25 : decode cX7_neighbour 25 = .ok (.iload 5, 2) := by decide +kernel
theorem dX7_neighbour_27 : decode cX7_neighbour 27 = .ok (.aload_n 0, 1) := by decide +kernel
theorem dX7_neighbour_28 : decode cX7_neighbour 28 = .ok (.getfield 10, 3) := by decide +kernel
theorem dX7_neighbour_31 : decode cX7_neighbour 31 = .ok (.getfield 52, 3) := by decide +kernel
theorem dX7_neighbour_34 : decode cX7_neighbour 34 = .ok (.if_icmp .ge 59, 3) := by decide +kernel
theorem dX7_neighbour_37 : decode cX7_neighbour 37 = .ok (.iload_n 2, 1) := by decide +kernel
theorem dX7_neighbour_38 : decode cX7_neighbour 38 = .ok (.ifCond .eq 17, 3) := by decide +kernel
theorem dX7_neighbour_41 : decode cX7_neighbour 41 = .ok (.aload_n 0, 1) := by decide +kernel
theorem dX7_neighbour_42 : decode cX7_neighbour 42 = .ok (.getfield 10, 3) := by decide +kernel
theorem dX7_neighbour_45 : decode cX7_neighbour 45 = .ok (.iload 5, 2) := by decide +kernel
theorem dX7_neighbour_47 : decode cX7_neighbour 47 = .ok (.invokevirtual 245, 3) := by decide +kernel
theorem dX7_neighbour_50 : decode cX7_neighbour 50 = .ok (.iload_n 1, 1) := by decide +kernel
theorem dX7_neighbour_51 : decode cX7_neighbour 51 = .ok (.isub, 1) := by decide +kernel
theorem dX7_neighbour_52 : decode cX7_neighbour 52 = .ok (.goto 14, 3) := by decide +kernel
theorem dX7_neighbour_55 : decode cX7_neighbour 55 = .ok (.iload_n 1, 1) := by decide +kernel
theorem dX7_neighbour_56 : decode cX7_neighbour 56 = .ok (.aload_n 0, 1) := by decide +kernel
theorem dX7_neighbour_57 : decode cX7_neighbour 57 = .ok (.getfield 10, 3) := by decide +kernel
theorem dX7_neighbour_60 : decode cX7_neighbour 60 = .ok (.iload 5, 2) := by decide +kernel
theorem dX7_neighbour_62 : decode cX7_neighbour 62 = .ok (.invokevirtual 245, 3) := by decide +kernel
theorem dX7_neighbour_65 : decode cX7_neighbour 65 = .ok (.isub, 1) := by decide +kernel
theorem dX7_neighbour_66 : decode cX7_neighbour 66 = .ok (.istore 6, 2) := by decide +kernel
theorem dX7_neighbour_68 : decode cX7_neighbour 68 = .ok (.iload 6, 2) := by decide +kernel
theorem dX7_neighbour_70 : decode cX7_neighbour 70 = .ok (.ifCond .le 17, 3) := by decide +kernel
theorem dX7_neighbour_73 : decode cX7_neighbour 73 = .ok (.iload 6, 2) := by decide +kernel
theorem dX7_neighbour_75 : decode cX7_neighbour 75 = .ok (.iload 4, 2) := by decide +kernel
theorem dX7_neighbour_77 : decode cX7_neighbour 77 = .ok (.if_icmp .ge 10, 3) := by decide +kernel
theorem dX7_neighbour_80 : decode cX7_neighbour 80 = .ok (.iload 5, 2) := by decide +kernel
theorem dX7_neighbour_82 : decode cX7_neighbour 82 = .ok (.istore_n 3, 1) := by decide +kernel
theorem dX7_neighbour_83 : decode cX7_neighbour 83 = .ok (.iload 6, 2) := by decide +kernel
theorem dX7_neighbour_85 : decode cX7_neighbour 85 = .ok (.istore 4, 2) := by decide +kernel
theorem dX7_neighbour_87 : decode cX7_neighbour 87 = .ok (.iinc 5 1, 3) := by decide +kernel
theorem dX7_neighbour_90 : decode cX7_neighbour 90 = .ok (.goto (-65), 3) := by decide +kernel
theorem dX7_neighbour_93 : decode cX7_neighbour 93 = .ok (.iload_n 3, 1) := by decide +kernel
theorem dX7_neighbour_94 : decode cX7_neighbour 94 = .ok (.ireturn, 1) := by decide +kernel
theorem dX7_count_0 : decode cX7_count 0 = .ok (.iload_n 1, 1) := by decide +kernel
theorem dX7_count_1 : decode cX7_count 1 = .ok (.tableswitch 162 0 11 #[63, 71, 82, 90, 98, 106, 114, 122, 130, 141, 146, 154], 63) := by decide +kernel
theorem dX7_count_64 : decode cX7_count 64 = .ok (.aload_n 0, 1) := by decide +kernel
theorem dX7_count_65 : decode cX7_count 65 = .ok (.getfield 10, 3) := by decide +kernel
theorem dX7_count_68 : decode cX7_count 68 = .ok (.getfield 52, 3) := by decide +kernel
theorem dX7_count_71 : decode cX7_count 71 = .ok (.ireturn, 1) := by decide +kernel
theorem dX7_count_72 : decode cX7_count 72 = .ok (.aload_n 0, 1) := by decide +kernel
theorem dX7_count_73 : decode cX7_count 73 = .ok (.getfield 10, 3) := by decide +kernel
theorem dX7_count_76 : decode cX7_count 76 = .ok (.getfield 125, 3) := by decide +kernel
theorem dX7_count_79 : decode cX7_count 79 = .ok (.getfield 129, 3) := by decide +kernel
theorem dX7_count_82 : decode cX7_count 82 = .ok (.ireturn, 1) := by decide +kernel
theorem dX7_count_83 : decode cX7_count 83 = .ok (.aload_n 0, 1) := by decide +kernel
theorem dX7_count_84 : decode cX7_count 84 = .ok (.getfield 10, 3) := by decide +kernel
theorem dX7_count_87 : decode cX7_count 87 = .ok (.getfield 248, 3) := by decide +kernel
theorem dX7_count_90 : decode cX7_count 90 = .ok (.ireturn, 1) := by decide +kernel
theorem dX7_count_91 : decode cX7_count 91 = .ok (.aload_n 0, 1) := by decide +kernel
theorem dX7_count_92 : decode cX7_count 92 = .ok (.getfield 10, 3) := by decide +kernel
theorem dX7_count_95 : decode cX7_count 95 = .ok (.getfield 251, 3) := by decide +kernel
theorem dX7_count_98 : decode cX7_count 98 = .ok (.ireturn, 1) := by decide +kernel
theorem dX7_count_99 : decode cX7_count 99 = .ok (.aload_n 0, 1) := by decide +kernel
theorem dX7_count_100 : decode cX7_count 100 = .ok (.getfield 10, 3) := by decide +kernel
theorem dX7_count_103 : decode cX7_count 103 = .ok (.getfield 160, 3) := by decide +kernel
theorem dX7_count_106 : decode cX7_count 106 = .ok (.ireturn, 1) := by decide +kernel
theorem dX7_count_107 : decode cX7_count 107 = .ok (.aload_n 0, 1) := by decide +kernel
theorem dX7_count_108 : decode cX7_count 108 = .ok (.getfield 10, 3) := by decide +kernel
theorem dX7_count_111 : decode cX7_count 111 = .ok (.getfield 254, 3) := by decide +kernel
theorem dX7_count_114 : decode cX7_count 114 = .ok (.ireturn, 1) := by decide +kernel
theorem dX7_count_115 : decode cX7_count 115 = .ok (.aload_n 0, 1) := by decide +kernel
theorem dX7_count_116 : decode cX7_count 116 = .ok (.getfield 10, 3) := by decide +kernel
theorem dX7_count_119 : decode cX7_count 119 = .ok (.getfield 255, 3) := by decide +kernel
theorem dX7_count_122 : decode cX7_count 122 = .ok (.ireturn, 1) := by decide +kernel
theorem dX7_count_123 : decode cX7_count 123 = .ok (.aload_n 0, 1) := by decide +kernel
theorem dX7_count_124 : decode cX7_count 124 = .ok (.getfield 10, 3) := by decide +kernel
theorem dX7_count_127 : decode cX7_count 127 = .ok (.getfield 97, 3) := by decide +kernel
theorem dX7_count_130 : decode cX7_count 130 = .ok (.ireturn, 1) := by decide +kernel
theorem dX7_count_131 : decode cX7_count 131 = .ok (.aload_n 0, 1) := by decide +kernel
theorem dX7_count_132 : decode cX7_count 132 = .ok (.getfield 10, 3) := by decide +kernel
theorem dX7_count_135 : decode cX7_count 135 = .ok (.getfield 242, 3) := by decide +kernel
theorem dX7_count_138 : decode cX7_count 138 = .ok (.getfield 129, 3) := by decide +kernel
theorem dX7_count_141 : decode cX7_count 141 = .ok (.ireturn, 1) := by decide +kernel
theorem dX7_count_142 : decode cX7_count 142 = .ok (.aload_n 0, 1) := by decide +kernel
theorem dX7_count_143 : decode cX7_count 143 = .ok (.getfield 256, 3) := by decide +kernel
theorem dX7_count_146 : decode cX7_count 146 = .ok (.ireturn, 1) := by decide +kernel
theorem dX7_count_147 : decode cX7_count 147 = .ok (.aload_n 0, 1) := by decide +kernel
theorem dX7_count_148 : decode cX7_count 148 = .ok (.getfield 22, 3) := by decide +kernel
theorem dX7_count_151 : decode cX7_count 151 = .ok (.getfield 181, 3) := by decide +kernel
theorem dX7_count_154 : decode cX7_count 154 = .ok (.ireturn, 1) := by decide +kernel
theorem dX7_count_155 : decode cX7_count 155 = .ok (.aload_n 0, 1) := by decide +kernel
theorem dX7_count_156 : decode cX7_count 156 = .ok (.getfield 29, 3) := by decide +kernel
theorem dX7_count_159 : decode cX7_count 159 = .ok (.getfield 167, 3) := by decide +kernel
theorem dX7_count_162 : decode cX7_count 162 = .ok (.ireturn, 1) := by decide +kernel
theorem dX7_count_163 : decode cX7_count 163 = .ok (.ldc 51, 2) := by decide +kernel
theorem dX7_count_165 : decode cX7_count 165 = .ok (.ireturn, 1) := by decide +kernel
theorem dX7_doJob_0 : decode cX7_doJob 0 = .ok (.aload_n 0, 1) := by decide +kernel
theorem dX7_doJob_1 : decode cX7_doJob 1 = .ok (.getfield 10, 3) := by decide +kernel
theorem dX7_doJob_4 : decode cX7_doJob 4 = .ok (.getfield 125, 3) := by decide +kernel
theorem dX7_doJob_7 : decode cX7_doJob 7 = .ok (.iload_n 1, 1) := by decide +kernel
theorem dX7_doJob_8 : decode cX7_doJob 8 = .ok (.iconst 1, 1) := by decide +kernel
theorem dX7_doJob_9 : decode cX7_doJob 9 = .ok (.invokevirtual 153, 3) := by decide +kernel
theorem dX7_doJob_12 : decode cX7_doJob 12 = .ok (.istore_n 2, 1) := by decide +kernel
theorem dX7_doJob_13 : decode cX7_doJob 13 = .ok (.aload_n 0, 1) := by decide +kernel
theorem dX7_doJob_14 : decode cX7_doJob 14 = .ok (.getfield 10, 3) := by decide +kernel
theorem dX7_doJob_17 : decode cX7_doJob 17 = .ok (.getfield 125, 3) := by decide +kernel
theorem dX7_doJob_20 : decode cX7_doJob 20 = .ok (.iload_n 1, 1) := by decide +kernel
theorem dX7_doJob_21 : decode cX7_doJob 21 = .ok (.iconst 2, 1) := by decide +kernel
theorem dX7_doJob_22 : decode cX7_doJob 22 = .ok (.invokevirtual 153, 3) := by decide +kernel
theorem dX7_doJob_25 : decode cX7_doJob 25 = .ok (.istore_n 3, 1) := by decide +kernel
theorem dX7_doJob_26 : decode cX7_doJob 26 = .ok (.aload_n 0, 1) := by decide +kernel
theorem dX7_doJob_27 : decode cX7_doJob 27 = .ok (.getfield 10, 3) := by decide +kernel
theorem dX7_doJob_30 : decode cX7_doJob 30 = .ok (.iload_n 3, 1) := by decide +kernel
theorem dX7_doJob_31 : decode cX7_doJob 31 = .ok (.invokevirtual 78, 3) := by decide +kernel
theorem dX7_doJob_34 : decode cX7_doJob 34 = .ok (.astore 4, 2) := by decide +kernel
theorem dX7_doJob_36 : decode cX7_doJob 36 = .ok (.aload_n 0, 1) := by decide +kernel
theorem dX7_doJob_37 : decode cX7_doJob 37 = .ok (.getfield 10, 3) := by decide +kernel
theorem dX7_doJob_40 : decode cX7_doJob 40 = .ok (.getfield 125, 3) := by decide +kernel
theorem dX7_doJob_43 : decode cX7_doJob 43 = .ok (.iload_n 1, 1) := by decide +kernel
theorem dX7_doJob_44 : decode cX7_doJob 44 = .ok (.invokevirtual 259, 3) := by decide +kernel
theorem dX7_doJob_47 : decode cX7_doJob 47 = .ok (.aload 4, 2) := by decide +kernel
theorem dX7_doJob_49 : decode cX7_doJob 49 = .ok (.ifnonnull 4, 3) := by decide +kernel
theorem dX7_doJob_52 : decode cX7_doJob 52 = .ok (.return_, 1) := by decide +kernel
theorem dX7_doJob_53 : decode cX7_doJob 53 = .ok (.aload_n 0, 1) := by decide +kernel
theorem dX7_doJob_54 : decode cX7_doJob 54 = .ok (.getfield 10, 3) := by decide +kernel
theorem dX7_doJob_57 : decode cX7_doJob 57 = .ok (.aload 4, 2) := by decide +kernel
theorem dX7_doJob_59 : decode cX7_doJob 59 = .ok (.getfield 185, 3) := by decide +kernel
theorem dX7_doJob_62 : decode cX7_doJob 62 = .ok (.invokevirtual 262, 3) := by decide +kernel
theorem dX7_doJob_65 : decode cX7_doJob 65 = .ok (.aload_n 0, 1) := by decide +kernel
theorem dX7_doJob_66 : decode cX7_doJob 66 = .ok (.getfield 43, 3) := by decide +kernel
theorem dX7_doJob_69 : decode cX7_doJob 69 = .ok (.aload 4, 2) := by decide +kernel
theorem dX7_doJob_71 : decode cX7_doJob 71 = .ok (.aload_n 0, 1) := by decide +kernel
theorem dX7_doJob_72 : decode cX7_doJob 72 = .ok (.getfield 10, 3) := by decide +kernel
theorem dX7_doJob_75 : decode cX7_doJob 75 = .ok (.getfield 97, 3) := by decide +kernel
theorem dX7_doJob_78 : decode cX7_doJob 78 = .ok (.invokevirtual 100, 3) := by decide +kernel
theorem dX7_doJob_81 : decode cX7_doJob 81 = .ok (.aload_n 0, 1) := by decide +kernel
theorem dX7_doJob_82 : decode cX7_doJob 82 = .ok (.iload_n 2, 1) := by decide +kernel
theorem dX7_doJob_83 : decode cX7_doJob 83 = .ok (.aload 4, 2) := by decide +kernel
theorem dX7_doJob_85 : decode cX7_doJob 85 = .ok (.invokevirtual 265, 3) := by decide +kernel
theorem dX7_doJob_88 : decode cX7_doJob 88 = .ok (.istore 5, 2) := by decide +kernel
theorem dX7_doJob_90 : decode cX7_doJob 90 = .ok (.ldc 96, 2) := by decide +kernel
theorem dX7_doJob_92 : decode cX7_doJob 92 = .ok (.istore 6, 2) := by decide +kernel
theorem dX7_doJob_94 : decode cX7_doJob 94 = .ok (.iload 5, 2) := by decide +kernel
theorem dX7_doJob_96 : decode cX7_doJob 96 = .ok (.ifCond .ne 15, 3) := by decide +kernel
theorem dX7_doJob_99 : decode cX7_doJob 99 = .ok (.aload_n 0, 1) := by decide +kernel
theorem dX7_doJob_100 : decode cX7_doJob 100 = .ok (.iload_n 2, 1) := by decide +kernel
theorem dX7_doJob_101 : decode cX7_doJob 101 = .ok (.aload 4, 2) := by decide +kernel
theorem dX7_doJob_103 : decode cX7_doJob 103 = .ok (.invokevirtual 269, 3) := by decide +kernel
theorem dX7_doJob_106 : decode cX7_doJob 106 = .ok (.istore 6, 2) := by decide +kernel
theorem dX7_doJob_108 : decode cX7_doJob 108 = .ok (.goto 22, 3) := by decide +kernel
theorem dX7_doJob_111 : decode cX7_doJob 111 = .ok (.aload_n 0, 1) := by decide +kernel
theorem dX7_doJob_112 : decode cX7_doJob 112 = .ok (.iload 5, 2) := by decide +kernel
theorem dX7_doJob_114 : decode cX7_doJob 114 = .ok (.putfield 256, 3) := by decide +kernel
theorem dX7_doJob_117 : decode cX7_doJob 117 = .ok (.aload_n 0, 1) := by decide +kernel
theorem dX7_doJob_118 : decode cX7_doJob 118 = .ok (.getfield 10, 3) := by decide +kernel
theorem dX7_doJob_121 : decode cX7_doJob 121 = .ok (.dup, 1) := by decide +kernel
theorem dX7_doJob_122 : decode cX7_doJob 122 = .ok (.getfield 160, 3) := by decide +kernel
theorem dX7_doJob_125 : decode cX7_doJob 125 = .ok (.iconst 1, 1) := by decide +kernel
theorem dX7_doJob_126 : decode cX7_doJob 126 = .ok (.iadd, 1) := by decide +kernel
theorem dX7_doJob_127 : decode cX7_doJob 127 = .ok (.putfield 160, 3) := by decide +kernel
theorem dX7_doJob_130 : decode cX7_doJob 130 = .ok (.aload_n 0, 1) := by decide +kernel
theorem dX7_doJob_131 : decode cX7_doJob 131 = .ok (.getfield 10, 3) := by decide +kernel
theorem dX7_doJob_134 : decode cX7_doJob 134 = .ok (.dup, 1) := by decide +kernel
theorem dX7_doJob_135 : decode cX7_doJob 135 = .ok (.getfield 251, 3) := by decide +kernel
theorem dX7_doJob_138 : decode cX7_doJob 138 = .ok (.iconst 1, 1) := by decide +kernel
theorem dX7_doJob_139 : decode cX7_doJob 139 = .ok (.iadd, 1) := by decide +kernel
theorem dX7_doJob_140 : decode cX7_doJob 140 = .ok (.putfield 251, 3) := by decide +kernel
theorem dX7_doJob_143 : decode cX7_doJob 143 = .ok (.aload_n 0, 1) := by decide +kernel
theorem dX7_doJob_144 : decode cX7_doJob 144 = .ok (.getfield 10, 3) := by decide +kernel
theorem dX7_doJob_147 : decode cX7_doJob 147 = .ok (.iload_n 2, 1) := by decide +kernel
theorem dX7_doJob_148 : decode cX7_doJob 148 = .ok (.iload_n 3, 1) := by decide +kernel
theorem dX7_doJob_149 : decode cX7_doJob 149 = .ok (.iload 6, 2) := by decide +kernel
theorem dX7_doJob_151 : decode cX7_doJob 151 = .ok (.iload 5, 2) := by decide +kernel
theorem dX7_doJob_153 : decode cX7_doJob 153 = .ok (.invokevirtual 272, 3) := by decide +kernel
theorem dX7_doJob_156 : decode cX7_doJob 156 = .ok (.return_, 1) := by decide +kernel
theorem dX7_reasonAgainst_0 : decode cX7_reasonAgainst 0 = .ok (.iload_n 1, 1) := by decide +kernel
theorem dX7_reasonAgainst_1 : decode cX7_reasonAgainst 1 = .ok (.lookupswitch 49 #[(0, 27), (1, 43)], 27) := by decide +kernel
theorem dX7_reasonAgainst_28 : decode cX7_reasonAgainst 28 = .ok (.aload_n 0, 1) := by decide +kernel
theorem dX7_reasonAgainst_29 : decode cX7_reasonAgainst 29 = .ok (.getfield 43, 3) := by decide +kernel
theorem dX7_reasonAgainst_32 : decode cX7_reasonAgainst 32 = .ok (.getfield 200, 3) := by decide +kernel
theorem dX7_reasonAgainst_35 : decode cX7_reasonAgainst 35 = .ok (.ifCond .le 7, 3) := by decide +kernel
theorem dX7_reasonAgainst_38 : decode cX7_reasonAgainst 38 = .ok (.iconst 2, 1) := by decide +kernel
theorem dX7_reasonAgainst_39 : decode cX7_reasonAgainst 39 = .ok (.goto 4, 3) := by decide +kernel
theorem dX7_reasonAgainst_42 : decode cX7_reasonAgainst 42 = .ok (.iconst 0, 1) := by decide +kernel
theorem dX7_reasonAgainst_43 : decode cX7_reasonAgainst 43 = .ok (.ireturn, 1) := by decide +kernel
theorem dX7_reasonAgainst_44 : decode cX7_reasonAgainst 44 = .ok (.aload_n 0, 1) := by decide +kernel
theorem dX7_reasonAgainst_45 : decode cX7_reasonAgainst 45 = .ok (.aload_n 2, 1) := by decide +kernel
theorem dX7_reasonAgainst_46 : decode cX7_reasonAgainst 46 = .ok (.invokevirtual 276, 3) := by decide +kernel
theorem dX7_reasonAgainst_49 : decode cX7_reasonAgainst 49 = .ok (.ireturn, 1) := by decide +kernel
theorem dX7_reasonAgainst_50 : decode cX7_reasonAgainst 50 = .ok (.aload_n 0, 1) := by decide +kernel
theorem dX7_reasonAgainst_51 : decode cX7_reasonAgainst 51 = .ok (.invokevirtual 280, 3) := by decide +kernel
theorem dX7_reasonAgainst_54 : decode cX7_reasonAgainst 54 = .ok (.ireturn, 1) := by decide +kernel
theorem dX7_reasonAgainstBalance_0 : decode cX7_reasonAgainstBalance 0 = .ok (.aload_n 1, 1) := by decide +kernel
theorem dX7_reasonAgainstBalance_1 : decode cX7_reasonAgainstBalance 1 = .ok (.getfield 118, 3) := by decide +kernel
theorem dX7_reasonAgainstBalance_4 : decode cX7_reasonAgainstBalance 4 = .ok (.ifCond .eq 5, 3) := by decide +kernel
theorem dX7_reasonAgainstBalance_7 : decode cX7_reasonAgainstBalance 7 = .ok (.iconst 4, 1) := by decide +kernel
theorem dX7_reasonAgainstBalance_8 : decode cX7_reasonAgainstBalance 8 = .ok (.ireturn, 1) := by decide +kernel
theorem dX7_reasonAgainstBalance_9 : decode cX7_reasonAgainstBalance 9 = .ok (.iconst 0, 1) := by decide +kernel
theorem dX7_reasonAgainstBalance_10 : decode cX7_reasonAgainstBalance 10 = .ok (.istore_n 2, 1) := by decide +kernel
theorem dX7_reasonAgainstBalance_11 : decode cX7_reasonAgainstBalance 11 = .ok (.iload_n 2, 1) := by decide +kernel
theorem dX7_reasonAgainstBalance_12 : decode cX7_reasonAgainstBalance 12 = .ok (.iconst 3, 1) := by decide +kernel
theorem dX7_reasonAgainstBalance_13 : decode cX7_reasonAgainstBalance 13 = .ok (.if_icmp .ge 36, 3) := by decide +kernel
theorem dX7_reasonAgainstBalance_16 : decode cX7_reasonAgainstBalance 16 = .ok (.aload_n 1, 1) := by decide +kernel
theorem dX7_reasonAgainstBalance_17 : decode cX7_reasonAgainstBalance 17 = .ok (.getfield 209, 3) := by decide +kernel
theorem dX7_reasonAgainstBalance_20 : decode cX7_reasonAgainstBalance 20 = .ok (.iload_n 2, 1) := by decide +kernel
theorem dX7_reasonAgainstBalance_21 : decode cX7_reasonAgainstBalance 21 = .ok (.iaload, 1) := by decide +kernel
theorem dX7_reasonAgainstBalance_22 : decode cX7_reasonAgainstBalance 22 = .ok (.aload_n 0, 1) := by decide +kernel
theorem dX7_reasonAgainstBalance_23 : decode cX7_reasonAgainstBalance 23 = .ok (.getfield 43, 3) := by decide +kernel
theorem dX7_reasonAgainstBalance_26 : decode cX7_reasonAgainstBalance 26 = .ok (.getfield 206, 3) := by decide +kernel
theorem dX7_reasonAgainstBalance_29 : decode cX7_reasonAgainstBalance 29 = .ok (.iload_n 2, 1) := by decide +kernel
theorem dX7_reasonAgainstBalance_30 : decode cX7_reasonAgainstBalance 30 = .ok (.iaload, 1) := by decide +kernel
theorem dX7_reasonAgainstBalance_31 : decode cX7_reasonAgainstBalance 31 = .ok (.iadd, 1) := by decide +kernel
theorem dX7_reasonAgainstBalance_32 : decode cX7_reasonAgainstBalance 32 = .ok (.sipush 15000, 3) := by decide +kernel
theorem dX7_reasonAgainstBalance_35 : decode cX7_reasonAgainstBalance 35 = .ok (.invokestatic 83, 3) := by decide +kernel
theorem dX7_reasonAgainstBalance_38 : decode cX7_reasonAgainstBalance 38 = .ok (.ifCond .ne 5, 3) := by decide +kernel
theorem dX7_reasonAgainstBalance_41 : decode cX7_reasonAgainstBalance 41 = .ok (.iconst 3, 1) := by decide +kernel
theorem dX7_reasonAgainstBalance_42 : decode cX7_reasonAgainstBalance 42 = .ok (.ireturn, 1) := by decide +kernel
theorem dX7_reasonAgainstBalance_43 : decode cX7_reasonAgainstBalance 43 = .ok (.iinc 2 1, 3) := by decide +kernel
theorem dX7_reasonAgainstBalance_46 : decode cX7_reasonAgainstBalance 46 = .ok (.goto (-35), 3) := by decide +kernel
theorem dX7_reasonAgainstBalance_49 : decode cX7_reasonAgainstBalance 49 = .ok (.iconst 0, 1) := by decide +kernel
theorem dX7_reasonAgainstBalance_50 : decode cX7_reasonAgainstBalance 50 = .ok (.ireturn, 1) := by decide +kernel
theorem dX7_reasonAgainstCheck_0 : decode cX7_reasonAgainstCheck 0 = .ok (.aload_n 0, 1) := by decide +kernel
theorem dX7_reasonAgainstCheck_1 : decode cX7_reasonAgainstCheck 1 = .ok (.getfield 43, 3) := by decide +kernel
theorem dX7_reasonAgainstCheck_4 : decode cX7_reasonAgainstCheck 4 = .ok (.getfield 283, 3) := by decide +kernel
theorem dX7_reasonAgainstCheck_7 : decode cX7_reasonAgainstCheck 7 = .ok (.ifCond .eq 5, 3) := by decide +kernel
theorem dX7_reasonAgainstCheck_10 : decode cX7_reasonAgainstCheck 10 = .ok (.iconst 2, 1) := by decide +kernel
theorem dX7_reasonAgainstCheck_11 : decode cX7_reasonAgainstCheck 11 = .ok (.ireturn, 1) := by decide +kernel
theorem dX7_reasonAgainstCheck_12 : decode cX7_reasonAgainstCheck 12 = .ok (.iconst 0, 1) := by decide +kernel
theorem dX7_reasonAgainstCheck_13 : decode cX7_reasonAgainstCheck 13 = .ok (.istore_n 1, 1) := by decide +kernel
theorem dX7_reasonAgainstCheck_14 : decode cX7_reasonAgainstCheck 14 = .ok (.iload_n 1, 1) := by decide +kernel
theorem dX7_reasonAgainstCheck_15 : decode cX7_reasonAgainstCheck 15 = .ok (.iconst 3, 1) := by decide +kernel
theorem dX7_reasonAgainstCheck_16 : decode cX7_reasonAgainstCheck 16 = .ok (.if_icmp .ge 23, 3) := by decide +kernel
theorem dX7_reasonAgainstCheck_19 : decode cX7_reasonAgainstCheck 19 = .ok (.aload_n 0, 1) := by decide +kernel
theorem dX7_reasonAgainstCheck_20 : decode cX7_reasonAgainstCheck 20 = .ok (.getfield 43, 3) := by decide +kernel
theorem dX7_reasonAgainstCheck_23 : decode cX7_reasonAgainstCheck 23 = .ok (.getfield 218, 3) := by decide +kernel
theorem dX7_reasonAgainstCheck_26 : decode cX7_reasonAgainstCheck 26 = .ok (.iload_n 1, 1) := by decide +kernel
theorem dX7_reasonAgainstCheck_27 : decode cX7_reasonAgainstCheck 27 = .ok (.iaload, 1) := by decide +kernel
theorem dX7_reasonAgainstCheck_28 : decode cX7_reasonAgainstCheck 28 = .ok (.ifCond .ne 5, 3) := by decide +kernel
theorem dX7_reasonAgainstCheck_31 : decode cX7_reasonAgainstCheck 31 = .ok (.iconst 5, 1) := by decide +kernel
theorem dX7_reasonAgainstCheck_32 : decode cX7_reasonAgainstCheck 32 = .ok (.ireturn, 1) := by decide +kernel
theorem dX7_reasonAgainstCheck_33 : decode cX7_reasonAgainstCheck 33 = .ok (.iinc 1 1, 3) := by decide +kernel
theorem dX7_reasonAgainstCheck_36 : decode cX7_reasonAgainstCheck 36 = .ok (.goto (-22), 3) := by decide +kernel
theorem dX7_reasonAgainstCheck_39 : decode cX7_reasonAgainstCheck 39 = .ok (.iconst 0, 1) := by decide +kernel
theorem dX7_reasonAgainstCheck_40 : decode cX7_reasonAgainstCheck 40 = .ok (.ireturn, 1) := by decide +kernel
theorem dX7_perform_0 : decode cX7_perform 0 = .ok (.iload_n 1, 1) := by decide +kernel
theorem dX7_perform_1 : decode cX7_perform 1 = .ok (.lookupswitch 49 #[(0, 27), (1, 43)], 27) := by decide +kernel
theorem dX7_perform_28 : decode cX7_perform 28 = .ok (.aload_n 0, 1) := by decide +kernel
theorem dX7_perform_29 : decode cX7_perform 29 = .ok (.getfield 43, 3) := by decide +kernel
theorem dX7_perform_32 : decode cX7_perform 32 = .ok (.getfield 221, 3) := by decide +kernel
theorem dX7_perform_35 : decode cX7_perform 35 = .ok (.aload_n 0, 1) := by decide +kernel
theorem dX7_perform_36 : decode cX7_perform 36 = .ok (.getfield 43, 3) := by decide +kernel
theorem dX7_perform_39 : decode cX7_perform 39 = .ok (.getfield 224, 3) := by decide +kernel
theorem dX7_perform_42 : decode cX7_perform 42 = .ok (.iadd, 1) := by decide +kernel
theorem dX7_perform_43 : decode cX7_perform 43 = .ok (.ireturn, 1) := by decide +kernel
theorem dX7_perform_44 : decode cX7_perform 44 = .ok (.aload_n 0, 1) := by decide +kernel
theorem dX7_perform_45 : decode cX7_perform 45 = .ok (.aload_n 2, 1) := by decide +kernel
theorem dX7_perform_46 : decode cX7_perform 46 = .ok (.invokevirtual 286, 3) := by decide +kernel
theorem dX7_perform_49 : decode cX7_perform 49 = .ok (.ireturn, 1) := by decide +kernel
theorem dX7_perform_50 : decode cX7_perform 50 = .ok (.aload_n 0, 1) := by decide +kernel
theorem dX7_perform_51 : decode cX7_perform 51 = .ok (.aload_n 2, 1) := by decide +kernel
theorem dX7_perform_52 : decode cX7_perform 52 = .ok (.invokevirtual 289, 3) := by decide +kernel
theorem dX7_perform_55 : decode cX7_perform 55 = .ok (.ireturn, 1) := by decide +kernel
theorem dX7_setZeros_0 : decode cX7_setZeros 0 = .ok (.iconst 0, 1) := by decide +kernel
theorem dX7_setZeros_1 : decode cX7_setZeros 1 = .ok (.istore_n 2, 1) := by decide +kernel
theorem dX7_setZeros_2 : decode cX7_setZeros 2 = .ok (.iconst 0, 1) := by decide +kernel
theorem dX7_setZeros_3 : decode cX7_setZeros 3 = .ok (.istore_n 3, 1) := by decide +kernel
theorem dX7_setZeros_4 : decode cX7_setZeros 4 = .ok (.iload_n 3, 1) := by decide +kernel
theorem dX7_setZeros_5 : decode cX7_setZeros 5 = .ok (.iconst 3, 1) := by decide +kernel
theorem dX7_setZeros_6 : decode cX7_setZeros 6 = .ok (.if_icmp .ge 49, 3) := by decide +kernel
theorem dX7_setZeros_9 : decode cX7_setZeros 9 = .ok (.aload_n 1, 1) := by decide +kernel
theorem dX7_setZeros_10 : decode cX7_setZeros 10 = .ok (.getfield 209, 3) := by decide +kernel
theorem dX7_setZeros_13 : decode cX7_setZeros 13 = .ok (.iload_n 3, 1) := by decide +kernel
theorem dX7_setZeros_14 : decode cX7_setZeros 14 = .ok (.iaload, 1) := by decide +kernel
theorem dX7_setZeros_15 : decode cX7_setZeros 15 = .ok (.aload_n 0, 1) := by decide +kernel
theorem dX7_setZeros_16 : decode cX7_setZeros 16 = .ok (.getfield 43, 3) := by decide +kernel
theorem dX7_setZeros_19 : decode cX7_setZeros 19 = .ok (.getfield 206, 3) := by decide +kernel
theorem dX7_setZeros_22 : decode cX7_setZeros 22 = .ok (.iload_n 3, 1) := by decide +kernel
theorem dX7_setZeros_23 : decode cX7_setZeros 23 = .ok (.iaload, 1) := by decide +kernel
theorem dX7_setZeros_24 : decode cX7_setZeros 24 = .ok (.iadd, 1) := by decide +kernel
theorem dX7_setZeros_25 : decode cX7_setZeros 25 = .ok (.istore 4, 2) := by decide +kernel
theorem dX7_setZeros_27 : decode cX7_setZeros 27 = .ok (.iload 4, 2) := by decide +kernel
theorem dX7_setZeros_29 : decode cX7_setZeros 29 = .ok (.aload_n 1, 1) := by decide +kernel
theorem dX7_setZeros_30 : decode cX7_setZeros 30 = .ok (.getfield 209, 3) := by decide +kernel
theorem dX7_setZeros_33 : decode cX7_setZeros 33 = .ok (.iload_n 3, 1) := by decide +kernel
theorem dX7_setZeros_34 : decode cX7_setZeros 34 = .ok (.iaload, 1) := by decide +kernel
theorem dX7_setZeros_35 : decode cX7_setZeros 35 = .ok (.if_icmp .eq 14, 3) := by decide +kernel
theorem dX7_setZeros_38 : decode cX7_setZeros 38 = .ok (.aload_n 1, 1) := by decide +kernel
theorem dX7_setZeros_39 : decode cX7_setZeros 39 = .ok (.getfield 209, 3) := by decide +kernel
theorem dX7_setZeros_42 : decode cX7_setZeros 42 = .ok (.iload_n 3, 1) := by decide +kernel
theorem dX7_setZeros_43 : decode cX7_setZeros 43 = .ok (.iload 4, 2) := by decide +kernel
theorem dX7_setZeros_45 : decode cX7_setZeros 45 = .ok (.iastore, 1) := by decide +kernel
theorem dX7_setZeros_46 : decode cX7_setZeros 46 = .ok (.iinc 2 1, 3) := by decide +kernel
theorem dX7_setZeros_49 : decode cX7_setZeros 49 = .ok (.iinc 3 1, 3) := by decide +kernel
theorem dX7_setZeros_52 : decode cX7_setZeros 52 = .ok (.goto (-48), 3) := by decide +kernel
theorem dX7_setZeros_55 : decode cX7_setZeros 55 = .ok (.iload_n 2, 1) := by decide +kernel
theorem dX7_setZeros_56 : decode cX7_setZeros 56 = .ok (.ireturn, 1) := by decide +kernel
theorem dX7_setGains_0 : decode cX7_setGains 0 = .ok (.iconst 0, 1) := by decide +kernel
theorem dX7_setGains_1 : decode cX7_setGains 1 = .ok (.istore_n 2, 1) := by decide +kernel
theorem dX7_setGains_2 : decode cX7_setGains 2 = .ok (.iconst 0, 1) := by decide +kernel
theorem dX7_setGains_3 : decode cX7_setGains 3 = .ok (.istore_n 3, 1) := by decide +kernel
theorem dX7_setGains_4 : decode cX7_setGains 4 = .ok (.iload_n 3, 1) := by decide +kernel
theorem dX7_setGains_5 : decode cX7_setGains 5 = .ok (.iconst 3, 1) := by decide +kernel
theorem dX7_setGains_6 : decode cX7_setGains 6 = .ok (.if_icmp .ge 59, 3) := by decide +kernel
theorem dX7_setGains_9 : decode cX7_setGains 9 = .ok (.aload_n 0, 1) := by decide +kernel
theorem dX7_setGains_10 : decode cX7_setGains 10 = .ok (.getfield 43, 3) := by decide +kernel
theorem dX7_setGains_13 : decode cX7_setGains 13 = .ok (.getfield 197, 3) := by decide +kernel
theorem dX7_setGains_16 : decode cX7_setGains 16 = .ok (.i2l, 1) := by decide +kernel
theorem dX7_setGains_17 : decode cX7_setGains 17 = .ok (.ldc2_w 292, 3) := by decide +kernel
theorem dX7_setGains_20 : decode cX7_setGains 20 = .ok (.lmul, 1) := by decide +kernel
theorem dX7_setGains_21 : decode cX7_setGains 21 = .ok (.aload_n 0, 1) := by decide +kernel
theorem dX7_setGains_22 : decode cX7_setGains 22 = .ok (.getfield 43, 3) := by decide +kernel
theorem dX7_setGains_25 : decode cX7_setGains 25 = .ok (.getfield 218, 3) := by decide +kernel
theorem dX7_setGains_28 : decode cX7_setGains 28 = .ok (.iload_n 3, 1) := by decide +kernel
theorem dX7_setGains_29 : decode cX7_setGains 29 = .ok (.iaload, 1) := by decide +kernel
theorem dX7_setGains_30 : decode cX7_setGains 30 = .ok (.i2l, 1) := by decide +kernel
theorem dX7_setGains_31 : decode cX7_setGains 31 = .ok (.invokestatic 294, 3) := by decide +kernel
theorem dX7_setGains_34 : decode cX7_setGains 34 = .ok (.l2i, 1) := by decide +kernel
theorem dX7_setGains_35 : decode cX7_setGains 35 = .ok (.istore 4, 2) := by decide +kernel
theorem dX7_setGains_37 : decode cX7_setGains 37 = .ok (.iload 4, 2) := by decide +kernel
theorem dX7_setGains_39 : decode cX7_setGains 39 = .ok (.aload_n 1, 1) := by decide +kernel
theorem dX7_setGains_40 : decode cX7_setGains 40 = .ok (.getfield 212, 3) := by decide +kernel
theorem dX7_setGains_43 : decode cX7_setGains 43 = .ok (.iload_n 3, 1) := by decide +kernel
theorem dX7_setGains_44 : decode cX7_setGains 44 = .ok (.iaload, 1) := by decide +kernel
theorem dX7_setGains_45 : decode cX7_setGains 45 = .ok (.if_icmp .eq 14, 3) := by decide +kernel
theorem dX7_setGains_48 : decode cX7_setGains 48 = .ok (.aload_n 1, 1) := by decide +kernel
theorem dX7_setGains_49 : decode cX7_setGains 49 = .ok (.getfield 212, 3) := by decide +kernel
theorem dX7_setGains_52 : decode cX7_setGains 52 = .ok (.iload_n 3, 1) := by decide +kernel
theorem dX7_setGains_53 : decode cX7_setGains 53 = .ok (.iload 4, 2) := by decide +kernel
theorem dX7_setGains_55 : decode cX7_setGains 55 = .ok (.iastore, 1) := by decide +kernel
theorem dX7_setGains_56 : decode cX7_setGains 56 = .ok (.iinc 2 1, 3) := by decide +kernel
theorem dX7_setGains_59 : decode cX7_setGains 59 = .ok (.iinc 3 1, 3) := by decide +kernel
theorem dX7_setGains_62 : decode cX7_setGains 62 = .ok (.goto (-58), 3) := by decide +kernel
theorem dX7_setGains_65 : decode cX7_setGains 65 = .ok (.iload_n 2, 1) := by decide +kernel
theorem dX7_setGains_66 : decode cX7_setGains 66 = .ok (.ireturn, 1) := by decide +kernel
theorem dX7_refuse_0 : decode cX7_refuse 0 = .ok (.aload_n 0, 1) := by decide +kernel
theorem dX7_refuse_1 : decode cX7_refuse 1 = .ok (.iload_n 1, 1) := by decide +kernel
theorem dX7_refuse_2 : decode cX7_refuse 2 = .ok (.putfield 256, 3) := by decide +kernel
theorem dX7_refuse_5 : decode cX7_refuse 5 = .ok (.ldc_w 298, 3) := by decide +kernel
theorem dX7_refuse_8 : decode cX7_refuse 8 = .ok (.ireturn, 1) := by decide +kernel
theorem dX7_isWithin_0 : decode cX7_isWithin 0 = .ok (.iload_n 0, 1) := by decide +kernel
theorem dX7_isWithin_1 : decode cX7_isWithin 1 = .ok (.iload_n 1, 1) := by decide +kernel
theorem dX7_isWithin_2 : decode cX7_isWithin 2 = .ok (.if_icmp .lt 12, 3) := by decide +kernel
theorem dX7_isWithin_5 : decode cX7_isWithin 5 = .ok (.iload_n 0, 1) := by decide +kernel
theorem dX7_isWithin_6 : decode cX7_isWithin 6 = .ok (.iload_n 2, 1) := by decide +kernel
theorem dX7_isWithin_7 : decode cX7_isWithin 7 = .ok (.if_icmp .gt 7, 3) := by decide +kernel
theorem dX7_isWithin_10 : decode cX7_isWithin 10 = .ok (.iconst 1, 1) := by decide +kernel
theorem dX7_isWithin_11 : decode cX7_isWithin 11 = .ok (.goto 4, 3) := by decide +kernel
theorem dX7_isWithin_14 : decode cX7_isWithin 14 = .ok (.iconst 0, 1) := by decide +kernel
theorem dX7_isWithin_15 : decode cX7_isWithin 15 = .ok (.ireturn, 1) := by decide +kernel
theorem dX7_isAround0_0 : decode cX7_isAround0 0 = .ok (.iload_n 0, 1) := by decide +kernel
theorem dX7_isAround0_1 : decode cX7_isAround0 1 = .ok (.iload_n 1, 1) := by decide +kernel
theorem dX7_isAround0_2 : decode cX7_isAround0 2 = .ok (.ineg, 1) := by decide +kernel
theorem dX7_isAround0_3 : decode cX7_isAround0 3 = .ok (.iload_n 1, 1) := by decide +kernel
theorem dX7_isAround0_4 : decode cX7_isAround0 4 = .ok (.invokestatic 47, 3) := by decide +kernel
theorem dX7_isAround0_7 : decode cX7_isAround0 7 = .ok (.ireturn, 1) := by decide +kernel
theorem dX7_quotient_0 : decode cX7_quotient 0 = .ok (.lload_n 2, 1) := by decide +kernel
theorem dX7_quotient_1 : decode cX7_quotient 1 = .ok (.lconst 0, 1) := by decide +kernel
theorem dX7_quotient_2 : decode cX7_quotient 2 = .ok (.lcmp, 1) := by decide +kernel
theorem dX7_quotient_3 : decode cX7_quotient 3 = .ok (.ifCond .ne 7, 3) := by decide +kernel
theorem dX7_quotient_6 : decode cX7_quotient 6 = .ok (.lconst 0, 1) := by decide +kernel
theorem dX7_quotient_7 : decode cX7_quotient 7 = .ok (.goto 6, 3) := by decide +kernel
theorem dX7_quotient_10 : decode cX7_quotient 10 = .ok (.lload_n 0, 1) := by decide +kernel
theorem dX7_quotient_11 : decode cX7_quotient 11 = .ok (.lload_n 2, 1) := by decide +kernel
theorem dX7_quotient_12 : decode cX7_quotient 12 = .ok (.ldiv, 1) := by decide +kernel
theorem dX7_quotient_13 : decode cX7_quotient 13 = .ok (.lreturn, 1) := by decide +kernel
theorem dJ9_abs_0f7a4_0 : decode cJ9_abs_0f7a4 0 = .ok (.iload_n 0, 1) := by decide +kernel
theorem dJ9_abs_0f7a4_1 : decode cJ9_abs_0f7a4 1 = .ok (.ifCond .ge 8, 3) := by decide +kernel
theorem dJ9_abs_0f7a4_4 : decode cJ9_abs_0f7a4 4 = .ok (.iload_n 0, 1) := by decide +kernel
theorem dJ9_abs_0f7a4_5 : decode cJ9_abs_0f7a4 5 = .ok (.ineg, 1) := by decide +kernel
theorem dJ9_abs_0f7a4_6 : decode cJ9_abs_0f7a4 6 = .ok (.goto 4, 3) := by decide +kernel
theorem dJ9_abs_0f7a4_9 : decode cJ9_abs_0f7a4 9 = .ok (.iload_n 0, 1) := by decide +kernel
theorem dJ9_abs_0f7a4_10 : decode cJ9_abs_0f7a4 10 = .ok (.ireturn, 1) := by decide +kernel
theorem dJ9_max_7cf53_0 : decode cJ9_max_7cf53 0 = .ok (.iload_n 0, 1) := by decide +kernel
theorem dJ9_max_7cf53_1 : decode cJ9_max_7cf53 1 = .ok (.iload_n 1, 1) := by decide +kernel
theorem dJ9_max_7cf53_2 : decode cJ9_max_7cf53 2 = .ok (.if_icmp .lt 7, 3) := by decide +kernel
theorem dJ9_max_7cf53_5 : decode cJ9_max_7cf53 5 = .ok (.iload_n 0, 1) := by decide +kernel
theorem dJ9_max_7cf53_6 : decode cJ9_max_7cf53 6 = .ok (.goto 4, 3) := by decide +kernel
theorem dJ9_max_7cf53_9 : decode cJ9_max_7cf53 9 = .ok (.iload_n 1, 1) := by decide +kernel
theorem dJ9_max_7cf53_10 : decode cJ9_max_7cf53 10 = .ok (.ireturn, 1) := by decide +kernel
theorem dJ9_min_7cf53_0 : decode cJ9_min_7cf53 0 = .ok (.iload_n 0, 1) := by decide +kernel
theorem dJ9_min_7cf53_1 : decode cJ9_min_7cf53 1 = .ok (.iload_n 1, 1) := by decide +kernel
theorem dJ9_min_7cf53_2 : decode cJ9_min_7cf53 2 = .ok (.if_icmp .gt 7, 3) := by decide +kernel
theorem dJ9_min_7cf53_5 : decode cJ9_min_7cf53 5 = .ok (.iload_n 0, 1) := by decide +kernel
theorem dJ9_min_7cf53_6 : decode cJ9_min_7cf53 6 = .ok (.goto 4, 3) := by decide +kernel
theorem dJ9_min_7cf53_9 : decode cJ9_min_7cf53 9 = .ok (.iload_n 1, 1) := by decide +kernel
theorem dJ9_min_7cf53_10 : decode cJ9_min_7cf53 10 = .ok (.ireturn, 1) := by decide +kernel
theorem dL_cell_0 : decode cL_cell 0 = .ok (.iload_n 1, 1) := by decide +kernel
theorem dL_cell_1 : decode cL_cell 1 = .ok (.aload_n 0, 1) := by decide +kernel
theorem dL_cell_2 : decode cL_cell 2 = .ok (.arraylength, 1) := by decide +kernel
theorem dL_cell_3 : decode cL_cell 3 = .ok (.if_icmp .ge 9, 3) := by decide +kernel
theorem dL_cell_6 : decode cL_cell 6 = .ok (.aload_n 0, 1) := by decide +kernel
theorem dL_cell_7 : decode cL_cell 7 = .ok (.iload_n 1, 1) := by decide +kernel
theorem dL_cell_8 : decode cL_cell 8 = .ok (.iaload, 1) := by decide +kernel
theorem dL_cell_9 : decode cL_cell 9 = .ok (.goto 11, 3) := by decide +kernel
theorem dL_cell_12 : decode cL_cell 12 = .ok (.ldc 7, 2) := by decide +kernel
theorem dL_cell_14 : decode cL_cell 14 = .ok (.iload_n 1, 1) := by decide +kernel
theorem dL_cell_15 : decode cL_cell 15 = .ok (.imul, 1) := by decide +kernel
theorem dL_cell_16 : decode cL_cell 16 = .ok (.sipush 1097, 3) := by decide +kernel
theorem dL_cell_19 : decode cL_cell 19 = .ok (.iadd, 1) := by decide +kernel
theorem dL_cell_20 : decode cL_cell 20 = .ok (.ireturn, 1) := by decide +kernel
theorem dL_low_0 : decode cL_low 0 = .ok (.iload_n 0, 1) := by decide +kernel
theorem dL_low_1 : decode cL_low 1 = .ok (.ldc 8, 2) := by decide +kernel
theorem dL_low_3 : decode cL_low 3 = .ok (.iand, 1) := by decide +kernel
theorem dL_low_4 : decode cL_low 4 = .ok (.iload_n 1, 1) := by decide +kernel
theorem dL_low_5 : decode cL_low 5 = .ok (.irem, 1) := by decide +kernel
theorem dL_low_6 : decode cL_low 6 = .ok (.ireturn, 1) := by decide +kernel
theorem dL_size_0 : decode cL_size 0 = .ok (.iload_n 0, 1) := by decide +kernel
theorem dL_size_1 : decode cL_size 1 = .ok (.ifCond .ge 8, 3) := by decide +kernel
theorem dL_size_4 : decode cL_size 4 = .ok (.iload_n 0, 1) := by decide +kernel
theorem dL_size_5 : decode cL_size 5 = .ok (.ineg, 1) := by decide +kernel
theorem dL_size_6 : decode cL_size 6 = .ok (.goto 4, 3) := by decide +kernel
theorem dL_size_9 : decode cL_size 9 = .ok (.iload_n 0, 1) := by decide +kernel
theorem dL_size_10 : decode cL_size 10 = .ok (.ireturn, 1) := by decide +kernel
theorem dL_digest_0 : decode cL_digest 0 = .ok (.ldc2_w 9, 3) := by decide +kernel
theorem dL_digest_3 : decode cL_digest 3 = .ok (.lstore_n 1, 1) := by decide +kernel
theorem dL_digest_4 : decode cL_digest 4 = .ok (.iconst 0, 1) := by decide +kernel
theorem dL_digest_5 : decode cL_digest 5 = .ok (.istore_n 3, 1) := by decide +kernel
theorem dL_digest_6 : decode cL_digest 6 = .ok (.iload_n 3, 1) := by decide +kernel
theorem dL_digest_7 : decode cL_digest 7 = .ok (.bipush 9, 2) := by decide +kernel
theorem dL_digest_9 : decode cL_digest 9 = .ok (.if_icmp .ge 22, 3) := by decide +kernel
theorem dL_digest_12 : decode cL_digest 12 = .ok (.ldc2_w 11, 3) := by decide +kernel
theorem dL_digest_15 : decode cL_digest 15 = .ok (.lload_n 1, 1) := by decide +kernel
theorem dL_digest_16 : decode cL_digest 16 = .ok (.lmul, 1) := by decide +kernel
theorem dL_digest_17 : decode cL_digest 17 = .ok (.aload_n 0, 1) := by decide +kernel
theorem dL_digest_18 : decode cL_digest 18 = .ok (.iload_n 3, 1) := by decide +kernel
theorem dL_digest_19 : decode cL_digest 19 = .ok (.invokevirtual 13, 3) := by decide +kernel
theorem dL_digest_22 : decode cL_digest 22 = .ok (.i2l, 1) := by decide +kernel
theorem dL_digest_23 : decode cL_digest 23 = .ok (.ladd, 1) := by decide +kernel
theorem dL_digest_24 : decode cL_digest 24 = .ok (.lstore_n 1, 1) := by decide +kernel
theorem dL_digest_25 : decode cL_digest 25 = .ok (.iinc 3 1, 3) := by decide +kernel
theorem dL_digest_28 : decode cL_digest 28 = .ok (.goto (-22), 3) := by decide +kernel
theorem dL_digest_31 : decode cL_digest 31 = .ok (.iconst 0, 1) := by decide +kernel
theorem dL_digest_32 : decode cL_digest 32 = .ok (.istore_n 3, 1) := by decide +kernel
theorem dL_digest_33 : decode cL_digest 33 = .ok (.iload_n 3, 1) := by decide +kernel
theorem dL_digest_34 : decode cL_digest 34 = .ok (.aload_n 0, 1) := by decide +kernel
theorem dL_digest_35 : decode cL_digest 35 = .ok (.iconst 0, 1) := by decide +kernel
theorem dL_digest_36 : decode cL_digest 36 = .ok (.invokevirtual 13, 3) := by decide +kernel
theorem dL_digest_39 : decode cL_digest 39 = .ok (.if_icmp .ge 105, 3) := by decide +kernel
theorem dL_digest_42 : decode cL_digest 42 = .ok (.iconst 0, 1) := by decide +kernel
theorem dL_digest_43 : decode cL_digest 43 = .ok (.istore 4, 2) := by decide +kernel
theorem dL_digest_45 : decode cL_digest 45 = .ok (.iload 4, 2) := by decide +kernel
theorem dL_digest_47 : decode cL_digest 47 = .ok (.bipush 12, 2) := by decide +kernel
theorem dL_digest_49 : decode cL_digest 49 = .ok (.if_icmp .ge 24, 3) := by decide +kernel
theorem dL_digest_52 : decode cL_digest 52 = .ok (.ldc2_w 11, 3) := by decide +kernel
theorem dL_digest_55 : decode cL_digest 55 = .ok (.lload_n 1, 1) := by decide +kernel
theorem dL_digest_56 : decode cL_digest 56 = .ok (.lmul, 1) := by decide +kernel
theorem dL_digest_57 : decode cL_digest 57 = .ok (.aload_n 0, 1) := by decide +kernel
theorem dL_digest_58 : decode cL_digest 58 = .ok (.iload_n 3, 1) := by decide +kernel
theorem dL_digest_59 : decode cL_digest 59 = .ok (.iload 4, 2) := by decide +kernel
theorem dL_digest_61 : decode cL_digest 61 = .ok (.invokevirtual 19, 3) := by decide +kernel
theorem dL_digest_64 : decode cL_digest 64 = .ok (.i2l, 1) := by decide +kernel
theorem dL_digest_65 : decode cL_digest 65 = .ok (.ladd, 1) := by decide +kernel
theorem dL_digest_66 : decode cL_digest 66 = .ok (.lstore_n 1, 1) := by decide +kernel
theorem dL_digest_67 : decode cL_digest 67 = .ok (.iinc 4 1, 3) := by decide +kernel
theorem dL_digest_70 : decode cL_digest 70 = .ok (.goto (-25), 3) := by decide +kernel
theorem dL_digest_73 : decode cL_digest 73 = .ok (.iconst 0, 1) := by decide +kernel
theorem dL_digest_74 : decode cL_digest 74 = .ok (.istore 4, 2) := by decide +kernel
theorem dL_digest_76 : decode cL_digest 76 = .ok (.iload 4, 2) := by decide +kernel
theorem dL_digest_78 : decode cL_digest 78 = .ok (.bipush 24, 2) := by decide +kernel
theorem dL_digest_80 : decode cL_digest 80 = .ok (.if_icmp .ge 32, 3) := by decide +kernel
theorem dL_digest_83 : decode cL_digest 83 = .ok (.ldc2_w 11, 3) := by decide +kernel
theorem dL_digest_86 : decode cL_digest 86 = .ok (.lload_n 1, 1) := by decide +kernel
theorem dL_digest_87 : decode cL_digest 87 = .ok (.lmul, 1) := by decide +kernel
theorem dL_digest_88 : decode cL_digest 88 = .ok (.aload_n 0, 1) := by decide +kernel
theorem dL_digest_89 : decode cL_digest 89 = .ok (.iload_n 3, 1) := by decide +kernel
theorem dL_digest_90 : decode cL_digest 90 = .ok (.iload 4, 2) := by decide +kernel
theorem dL_digest_92 : decode cL_digest 92 = .ok (.bipush 8, 2) := by decide +kernel
theorem dL_digest_94 : decode cL_digest 94 = .ok (.idiv, 1) := by decide +kernel
theorem dL_digest_95 : decode cL_digest 95 = .ok (.iload 4, 2) := by decide +kernel
theorem dL_digest_97 : decode cL_digest 97 = .ok (.bipush 8, 2) := by decide +kernel
theorem dL_digest_99 : decode cL_digest 99 = .ok (.irem, 1) := by decide +kernel
theorem dL_digest_100 : decode cL_digest 100 = .ok (.invokevirtual 23, 3) := by decide +kernel
theorem dL_digest_103 : decode cL_digest 103 = .ok (.i2l, 1) := by decide +kernel
theorem dL_digest_104 : decode cL_digest 104 = .ok (.ladd, 1) := by decide +kernel
theorem dL_digest_105 : decode cL_digest 105 = .ok (.lstore_n 1, 1) := by decide +kernel
theorem dL_digest_106 : decode cL_digest 106 = .ok (.iinc 4 1, 3) := by decide +kernel
theorem dL_digest_109 : decode cL_digest 109 = .ok (.goto (-33), 3) := by decide +kernel
theorem dL_digest_112 : decode cL_digest 112 = .ok (.ldc2_w 11, 3) := by decide +kernel
theorem dL_digest_115 : decode cL_digest 115 = .ok (.lload_n 1, 1) := by decide +kernel
theorem dL_digest_116 : decode cL_digest 116 = .ok (.lmul, 1) := by decide +kernel
theorem dL_digest_117 : decode cL_digest 117 = .ok (.ldc2_w 27, 3) := by decide +kernel
theorem dL_digest_120 : decode cL_digest 120 = .ok (.aload_n 0, 1) := by decide +kernel
theorem dL_digest_121 : decode cL_digest 121 = .ok (.iload_n 3, 1) := by decide +kernel
theorem dL_digest_122 : decode cL_digest 122 = .ok (.iconst 0, 1) := by decide +kernel
theorem dL_digest_123 : decode cL_digest 123 = .ok (.invokevirtual 29, 3) := by decide +kernel
theorem dL_digest_126 : decode cL_digest 126 = .ok (.i2l, 1) := by decide +kernel
theorem dL_digest_127 : decode cL_digest 127 = .ok (.lmul, 1) := by decide +kernel
theorem dL_digest_128 : decode cL_digest 128 = .ok (.ladd, 1) := by decide +kernel
theorem dL_digest_129 : decode cL_digest 129 = .ok (.aload_n 0, 1) := by decide +kernel
theorem dL_digest_130 : decode cL_digest 130 = .ok (.iload_n 3, 1) := by decide +kernel
theorem dL_digest_131 : decode cL_digest 131 = .ok (.iconst 2, 1) := by decide +kernel
theorem dL_digest_132 : decode cL_digest 132 = .ok (.invokevirtual 29, 3) := by decide +kernel
theorem dL_digest_135 : decode cL_digest 135 = .ok (.i2l, 1) := by decide +kernel
theorem dL_digest_136 : decode cL_digest 136 = .ok (.ladd, 1) := by decide +kernel
theorem dL_digest_137 : decode cL_digest 137 = .ok (.lstore_n 1, 1) := by decide +kernel
theorem dL_digest_138 : decode cL_digest 138 = .ok (.iinc 3 1, 3) := by decide +kernel
theorem dL_digest_141 : decode cL_digest 141 = .ok (.goto (-108), 3) := by decide +kernel
theorem dL_digest_144 : decode cL_digest 144 = .ok (.iconst 0, 1) := by decide +kernel
theorem dL_digest_145 : decode cL_digest 145 = .ok (.istore_n 3, 1) := by decide +kernel
theorem dL_digest_146 : decode cL_digest 146 = .ok (.iload_n 3, 1) := by decide +kernel
theorem dL_digest_147 : decode cL_digest 147 = .ok (.aload_n 0, 1) := by decide +kernel
theorem dL_digest_148 : decode cL_digest 148 = .ok (.iconst 1, 1) := by decide +kernel
theorem dL_digest_149 : decode cL_digest 149 = .ok (.invokevirtual 13, 3) := by decide +kernel
theorem dL_digest_152 : decode cL_digest 152 = .ok (.if_icmp .ge 59, 3) := by decide +kernel
theorem dL_digest_155 : decode cL_digest 155 = .ok (.ldc2_w 11, 3) := by decide +kernel
theorem dL_digest_158 : decode cL_digest 158 = .ok (.lload_n 1, 1) := by decide +kernel
theorem dL_digest_159 : decode cL_digest 159 = .ok (.lmul, 1) := by decide +kernel
theorem dL_digest_160 : decode cL_digest 160 = .ok (.ldc2_w 32, 3) := by decide +kernel
theorem dL_digest_163 : decode cL_digest 163 = .ok (.aload_n 0, 1) := by decide +kernel
theorem dL_digest_164 : decode cL_digest 164 = .ok (.iload_n 3, 1) := by decide +kernel
theorem dL_digest_165 : decode cL_digest 165 = .ok (.iconst 0, 1) := by decide +kernel
theorem dL_digest_166 : decode cL_digest 166 = .ok (.invokevirtual 34, 3) := by decide +kernel
theorem dL_digest_169 : decode cL_digest 169 = .ok (.i2l, 1) := by decide +kernel
theorem dL_digest_170 : decode cL_digest 170 = .ok (.lmul, 1) := by decide +kernel
theorem dL_digest_171 : decode cL_digest 171 = .ok (.ladd, 1) := by decide +kernel
theorem dL_digest_172 : decode cL_digest 172 = .ok (.ldc2_w 37, 3) := by decide +kernel
theorem dL_digest_175 : decode cL_digest 175 = .ok (.aload_n 0, 1) := by decide +kernel
theorem dL_digest_176 : decode cL_digest 176 = .ok (.iload_n 3, 1) := by decide +kernel
theorem dL_digest_177 : decode cL_digest 177 = .ok (.iconst 1, 1) := by decide +kernel
theorem dL_digest_178 : decode cL_digest 178 = .ok (.invokevirtual 34, 3) := by decide +kernel
theorem dL_digest_181 : decode cL_digest 181 = .ok (.i2l, 1) := by decide +kernel
theorem dL_digest_182 : decode cL_digest 182 = .ok (.lmul, 1) := by decide +kernel
theorem dL_digest_183 : decode cL_digest 183 = .ok (.ladd, 1) := by decide +kernel
theorem dL_digest_184 : decode cL_digest 184 = .ok (.ldc2_w 39, 3) := by decide +kernel
theorem dL_digest_187 : decode cL_digest 187 = .ok (.aload_n 0, 1) := by decide +kernel
theorem dL_digest_188 : decode cL_digest 188 = .ok (.iload_n 3, 1) := by decide +kernel
theorem dL_digest_189 : decode cL_digest 189 = .ok (.iconst 2, 1) := by decide +kernel
theorem dL_digest_190 : decode cL_digest 190 = .ok (.invokevirtual 34, 3) := by decide +kernel
theorem dL_digest_193 : decode cL_digest 193 = .ok (.i2l, 1) := by decide +kernel
theorem dL_digest_194 : decode cL_digest 194 = .ok (.lmul, 1) := by decide +kernel
theorem dL_digest_195 : decode cL_digest 195 = .ok (.ladd, 1) := by decide +kernel
theorem dL_digest_196 : decode cL_digest 196 = .ok (.aload_n 0, 1) := by decide +kernel
theorem dL_digest_197 : decode cL_digest 197 = .ok (.iload_n 3, 1) := by decide +kernel
theorem dL_digest_198 : decode cL_digest 198 = .ok (.iconst 3, 1) := by decide +kernel
theorem dL_digest_199 : decode cL_digest 199 = .ok (.invokevirtual 34, 3) := by decide +kernel
theorem dL_digest_202 : decode cL_digest 202 = .ok (.i2l, 1) := by decide +kernel
theorem dL_digest_203 : decode cL_digest 203 = .ok (.ladd, 1) := by decide +kernel
theorem dL_digest_204 : decode cL_digest 204 = .ok (.lstore_n 1, 1) := by decide +kernel
theorem dL_digest_205 : decode cL_digest 205 = .ok (.iinc 3 1, 3) := by decide +kernel
theorem dL_digest_208 : decode cL_digest 208 = .ok (.goto (-62), 3) := by decide +kernel
theorem dL_digest_211 : decode cL_digest 211 = .ok (.iconst 0, 1) := by decide +kernel
theorem dL_digest_212 : decode cL_digest 212 = .ok (.istore_n 3, 1) := by decide +kernel
theorem dL_digest_213 : decode cL_digest 213 = .ok (.iload_n 3, 1) := by decide +kernel
theorem dL_digest_214 : decode cL_digest 214 = .ok (.aload_n 0, 1) := by decide +kernel
theorem dL_digest_215 : decode cL_digest 215 = .ok (.bipush 8, 2) := by decide +kernel
theorem dL_digest_217 : decode cL_digest 217 = .ok (.invokevirtual 13, 3) := by decide +kernel
theorem dL_digest_220 : decode cL_digest 220 = .ok (.if_icmp .ge 59, 3) := by decide +kernel
theorem dL_digest_223 : decode cL_digest 223 = .ok (.ldc2_w 11, 3) := by decide +kernel
theorem dL_digest_226 : decode cL_digest 226 = .ok (.lload_n 1, 1) := by decide +kernel
theorem dL_digest_227 : decode cL_digest 227 = .ok (.lmul, 1) := by decide +kernel
theorem dL_digest_228 : decode cL_digest 228 = .ok (.ldc2_w 37, 3) := by decide +kernel
theorem dL_digest_231 : decode cL_digest 231 = .ok (.aload_n 0, 1) := by decide +kernel
theorem dL_digest_232 : decode cL_digest 232 = .ok (.iload_n 3, 1) := by decide +kernel
theorem dL_digest_233 : decode cL_digest 233 = .ok (.iconst 0, 1) := by decide +kernel
theorem dL_digest_234 : decode cL_digest 234 = .ok (.invokevirtual 41, 3) := by decide +kernel
theorem dL_digest_237 : decode cL_digest 237 = .ok (.i2l, 1) := by decide +kernel
theorem dL_digest_238 : decode cL_digest 238 = .ok (.lmul, 1) := by decide +kernel
theorem dL_digest_239 : decode cL_digest 239 = .ok (.ladd, 1) := by decide +kernel
theorem dL_digest_240 : decode cL_digest 240 = .ok (.ldc2_w 39, 3) := by decide +kernel
theorem dL_digest_243 : decode cL_digest 243 = .ok (.aload_n 0, 1) := by decide +kernel
theorem dL_digest_244 : decode cL_digest 244 = .ok (.iload_n 3, 1) := by decide +kernel
theorem dL_digest_245 : decode cL_digest 245 = .ok (.iconst 1, 1) := by decide +kernel
theorem dL_digest_246 : decode cL_digest 246 = .ok (.invokevirtual 41, 3) := by decide +kernel
theorem dL_digest_249 : decode cL_digest 249 = .ok (.i2l, 1) := by decide +kernel
theorem dL_digest_250 : decode cL_digest 250 = .ok (.lmul, 1) := by decide +kernel
theorem dL_digest_251 : decode cL_digest 251 = .ok (.ladd, 1) := by decide +kernel
theorem dL_digest_252 : decode cL_digest 252 = .ok (.ldc2_w 44, 3) := by decide +kernel
theorem dL_digest_255 : decode cL_digest 255 = .ok (.aload_n 0, 1) := by decide +kernel
theorem dL_digest_256 : decode cL_digest 256 = .ok (.iload_n 3, 1) := by decide +kernel
theorem dL_digest_257 : decode cL_digest 257 = .ok (.iconst 2, 1) := by decide +kernel
theorem dL_digest_258 : decode cL_digest 258 = .ok (.invokevirtual 41, 3) := by decide +kernel
theorem dL_digest_261 : decode cL_digest 261 = .ok (.i2l, 1) := by decide +kernel
theorem dL_digest_262 : decode cL_digest 262 = .ok (.lmul, 1) := by decide +kernel
theorem dL_digest_263 : decode cL_digest 263 = .ok (.ladd, 1) := by decide +kernel
theorem dL_digest_264 : decode cL_digest 264 = .ok (.aload_n 0, 1) := by decide +kernel
theorem dL_digest_265 : decode cL_digest 265 = .ok (.iload_n 3, 1) := by decide +kernel
theorem dL_digest_266 : decode cL_digest 266 = .ok (.iconst 3, 1) := by decide +kernel
theorem dL_digest_267 : decode cL_digest 267 = .ok (.invokevirtual 41, 3) := by decide +kernel
theorem dL_digest_270 : decode cL_digest 270 = .ok (.i2l, 1) := by decide +kernel
theorem dL_digest_271 : decode cL_digest 271 = .ok (.ladd, 1) := by decide +kernel
theorem dL_digest_272 : decode cL_digest 272 = .ok (.lstore_n 1, 1) := by decide +kernel
theorem dL_digest_273 : decode cL_digest 273 = .ok (.iinc 3 1, 3) := by decide +kernel
theorem dL_digest_276 : decode cL_digest 276 = .ok (.goto (-63), 3) := by decide +kernel
theorem dL_digest_279 : decode cL_digest 279 = .ok (.lload_n 1, 1) := by decide +kernel
theorem dL_digest_280 : decode cL_digest 280 = .ok (.lreturn, 1) := by decide +kernel
theorem dL_strains_0 : decode cL_strains 0 = .ok (.aload_n 0, 1) := by decide +kernel
theorem dL_strains_1 : decode cL_strains 1 = .ok (.iload_n 1, 1) := by decide +kernel
theorem dL_strains_2 : decode cL_strains 2 = .ok (.iconst 2, 1) := by decide +kernel
theorem dL_strains_3 : decode cL_strains 3 = .ok (.invokevirtual 29, 3) := by decide +kernel
theorem dL_strains_6 : decode cL_strains 6 = .ok (.istore_n 2, 1) := by decide +kernel
theorem dL_strains_7 : decode cL_strains 7 = .ok (.aload_n 0, 1) := by decide +kernel
theorem dL_strains_8 : decode cL_strains 8 = .ok (.iload_n 1, 1) := by decide +kernel
theorem dL_strains_9 : decode cL_strains 9 = .ok (.iload_n 2, 1) := by decide +kernel
theorem dL_strains_10 : decode cL_strains 10 = .ok (.invokevirtual 46, 3) := by decide +kernel
theorem dL_strains_13 : decode cL_strains 13 = .ok (.istore_n 3, 1) := by decide +kernel
theorem dL_strains_14 : decode cL_strains 14 = .ok (.iconst 0, 1) := by decide +kernel
theorem dL_strains_15 : decode cL_strains 15 = .ok (.istore 4, 2) := by decide +kernel
theorem dL_strains_17 : decode cL_strains 17 = .ok (.iload 4, 2) := by decide +kernel
theorem dL_strains_19 : decode cL_strains 19 = .ok (.bipush 24, 2) := by decide +kernel
theorem dL_strains_21 : decode cL_strains 21 = .ok (.if_icmp .ge 62, 3) := by decide +kernel
theorem dL_strains_24 : decode cL_strains 24 = .ok (.aload_n 0, 1) := by decide +kernel
theorem dL_strains_25 : decode cL_strains 25 = .ok (.iload_n 1, 1) := by decide +kernel
theorem dL_strains_26 : decode cL_strains 26 = .ok (.iload 4, 2) := by decide +kernel
theorem dL_strains_28 : decode cL_strains 28 = .ok (.invokevirtual 46, 3) := by decide +kernel
theorem dL_strains_31 : decode cL_strains 31 = .ok (.istore 5, 2) := by decide +kernel
theorem dL_strains_33 : decode cL_strains 33 = .ok (.iload 5, 2) := by decide +kernel
theorem dL_strains_35 : decode cL_strains 35 = .ok (.iload_n 3, 1) := by decide +kernel
theorem dL_strains_36 : decode cL_strains 36 = .ok (.if_icmp .gt 39, 3) := by decide +kernel
theorem dL_strains_39 : decode cL_strains 39 = .ok (.iload 5, 2) := by decide +kernel
theorem dL_strains_41 : decode cL_strains 41 = .ok (.aload_n 0, 1) := by decide +kernel
theorem dL_strains_42 : decode cL_strains 42 = .ok (.iload_n 1, 1) := by decide +kernel
theorem dL_strains_43 : decode cL_strains 43 = .ok (.iload 4, 2) := by decide +kernel
theorem dL_strains_45 : decode cL_strains 45 = .ok (.bipush 12, 2) := by decide +kernel
theorem dL_strains_47 : decode cL_strains 47 = .ok (.iadd, 1) := by decide +kernel
theorem dL_strains_48 : decode cL_strains 48 = .ok (.bipush 24, 2) := by decide +kernel
theorem dL_strains_50 : decode cL_strains 50 = .ok (.irem, 1) := by decide +kernel
theorem dL_strains_51 : decode cL_strains 51 = .ok (.invokevirtual 46, 3) := by decide +kernel
theorem dL_strains_54 : decode cL_strains 54 = .ok (.ineg, 1) := by decide +kernel
theorem dL_strains_55 : decode cL_strains 55 = .ok (.if_icmp .ne 20, 3) := by decide +kernel
theorem dL_strains_58 : decode cL_strains 58 = .ok (.iload 4, 2) := by decide +kernel
theorem dL_strains_60 : decode cL_strains 60 = .ok (.iload_n 2, 1) := by decide +kernel
theorem dL_strains_61 : decode cL_strains 61 = .ok (.if_icmp .ge 16, 3) := by decide +kernel
theorem dL_strains_64 : decode cL_strains 64 = .ok (.aload_n 0, 1) := by decide +kernel
theorem dL_strains_65 : decode cL_strains 65 = .ok (.iload_n 1, 1) := by decide +kernel
theorem dL_strains_66 : decode cL_strains 66 = .ok (.iload 4, 2) := by decide +kernel
theorem dL_strains_68 : decode cL_strains 68 = .ok (.invokevirtual 46, 3) := by decide +kernel
theorem dL_strains_71 : decode cL_strains 71 = .ok (.iload_n 3, 1) := by decide +kernel
theorem dL_strains_72 : decode cL_strains 72 = .ok (.if_icmp .le 5, 3) := by decide +kernel
theorem dL_strains_75 : decode cL_strains 75 = .ok (.iconst 0, 1) := by decide +kernel
theorem dL_strains_76 : decode cL_strains 76 = .ok (.ireturn, 1) := by decide +kernel
theorem dL_strains_77 : decode cL_strains 77 = .ok (.iinc 4 1, 3) := by decide +kernel
theorem dL_strains_80 : decode cL_strains 80 = .ok (.goto (-63), 3) := by decide +kernel
theorem dL_strains_83 : decode cL_strains 83 = .ok (.aload_n 0, 1) := by decide +kernel
theorem dL_strains_84 : decode cL_strains 84 = .ok (.iload_n 1, 1) := by decide +kernel
theorem dL_strains_85 : decode cL_strains 85 = .ok (.bipush 7, 2) := by decide +kernel
theorem dL_strains_87 : decode cL_strains 87 = .ok (.invokevirtual 29, 3) := by decide +kernel
theorem dL_strains_90 : decode cL_strains 90 = .ok (.istore 4, 2) := by decide +kernel
theorem dL_strains_92 : decode cL_strains 92 = .ok (.iload 4, 2) := by decide +kernel
theorem dL_strains_94 : decode cL_strains 94 = .ok (.aload_n 0, 1) := by decide +kernel
theorem dL_strains_95 : decode cL_strains 95 = .ok (.iload_n 1, 1) := by decide +kernel
theorem dL_strains_96 : decode cL_strains 96 = .ok (.iconst 4, 1) := by decide +kernel
theorem dL_strains_97 : decode cL_strains 97 = .ok (.invokevirtual 29, 3) := by decide +kernel
theorem dL_strains_100 : decode cL_strains 100 = .ok (.aload_n 0, 1) := by decide +kernel
theorem dL_strains_101 : decode cL_strains 101 = .ok (.iload_n 1, 1) := by decide +kernel
theorem dL_strains_102 : decode cL_strains 102 = .ok (.iconst 5, 1) := by decide +kernel
theorem dL_strains_103 : decode cL_strains 103 = .ok (.invokevirtual 29, 3) := by decide +kernel
theorem dL_strains_106 : decode cL_strains 106 = .ok (.iadd, 1) := by decide +kernel
theorem dL_strains_107 : decode cL_strains 107 = .ok (.iconst 2, 1) := by decide +kernel
theorem dL_strains_108 : decode cL_strains 108 = .ok (.idiv, 1) := by decide +kernel
theorem dL_strains_109 : decode cL_strains 109 = .ok (.if_icmp .ne 46, 3) := by decide +kernel
theorem dL_strains_112 : decode cL_strains 112 = .ok (.aload_n 0, 1) := by decide +kernel
theorem dL_strains_113 : decode cL_strains 113 = .ok (.iload_n 1, 1) := by decide +kernel
theorem dL_strains_114 : decode cL_strains 114 = .ok (.iconst 3, 1) := by decide +kernel
theorem dL_strains_115 : decode cL_strains 115 = .ok (.invokevirtual 29, 3) := by decide +kernel
theorem dL_strains_118 : decode cL_strains 118 = .ok (.iload_n 3, 1) := by decide +kernel
theorem dL_strains_119 : decode cL_strains 119 = .ok (.if_icmp .ne 36, 3) := by decide +kernel
theorem dL_strains_122 : decode cL_strains 122 = .ok (.aload_n 0, 1) := by decide +kernel
theorem dL_strains_123 : decode cL_strains 123 = .ok (.iload_n 1, 1) := by decide +kernel
theorem dL_strains_124 : decode cL_strains 124 = .ok (.iconst 0, 1) := by decide +kernel
theorem dL_strains_125 : decode cL_strains 125 = .ok (.invokevirtual 29, 3) := by decide +kernel
theorem dL_strains_128 : decode cL_strains 128 = .ok (.aload_n 0, 1) := by decide +kernel
theorem dL_strains_129 : decode cL_strains 129 = .ok (.iload_n 1, 1) := by decide +kernel
theorem dL_strains_130 : decode cL_strains 130 = .ok (.iconst 1, 1) := by decide +kernel
theorem dL_strains_131 : decode cL_strains 131 = .ok (.invokevirtual 29, 3) := by decide +kernel
theorem dL_strains_134 : decode cL_strains 134 = .ok (.iadd, 1) := by decide +kernel
theorem dL_strains_135 : decode cL_strains 135 = .ok (.iconst 2, 1) := by decide +kernel
theorem dL_strains_136 : decode cL_strains 136 = .ok (.iload 4, 2) := by decide +kernel
theorem dL_strains_138 : decode cL_strains 138 = .ok (.imul, 1) := by decide +kernel
theorem dL_strains_139 : decode cL_strains 139 = .ok (.if_icmp .ne 16, 3) := by decide +kernel
theorem dL_strains_142 : decode cL_strains 142 = .ok (.aload_n 0, 1) := by decide +kernel
theorem dL_strains_143 : decode cL_strains 143 = .ok (.iload_n 1, 1) := by decide +kernel
theorem dL_strains_144 : decode cL_strains 144 = .ok (.iconst 0, 1) := by decide +kernel
theorem dL_strains_145 : decode cL_strains 145 = .ok (.invokevirtual 29, 3) := by decide +kernel
theorem dL_strains_148 : decode cL_strains 148 = .ok (.iload 4, 2) := by decide +kernel
theorem dL_strains_150 : decode cL_strains 150 = .ok (.iload_n 3, 1) := by decide +kernel
theorem dL_strains_151 : decode cL_strains 151 = .ok (.iadd, 1) := by decide +kernel
theorem dL_strains_152 : decode cL_strains 152 = .ok (.if_icmp .eq 5, 3) := by decide +kernel
theorem dL_strains_155 : decode cL_strains 155 = .ok (.iconst 0, 1) := by decide +kernel
theorem dL_strains_156 : decode cL_strains 156 = .ok (.ireturn, 1) := by decide +kernel
theorem dL_strains_157 : decode cL_strains 157 = .ok (.aload_n 0, 1) := by decide +kernel
theorem dL_strains_158 : decode cL_strains 158 = .ok (.iload_n 1, 1) := by decide +kernel
theorem dL_strains_159 : decode cL_strains 159 = .ok (.iconst 1, 1) := by decide +kernel
theorem dL_strains_160 : decode cL_strains 160 = .ok (.invokevirtual 19, 3) := by decide +kernel
theorem dL_strains_163 : decode cL_strains 163 = .ok (.ifCond .ne 7, 3) := by decide +kernel
theorem dL_strains_166 : decode cL_strains 166 = .ok (.iconst 1, 1) := by decide +kernel
theorem dL_strains_167 : decode cL_strains 167 = .ok (.goto 4, 3) := by decide +kernel
theorem dL_strains_170 : decode cL_strains 170 = .ok (.iconst 0, 1) := by decide +kernel
theorem dL_strains_171 : decode cL_strains 171 = .ok (.istore 5, 2) := by decide +kernel
theorem dL_strains_173 : decode cL_strains 173 = .ok (.aload_n 0, 1) := by decide +kernel
theorem dL_strains_174 : decode cL_strains 174 = .ok (.iload_n 1, 1) := by decide +kernel
theorem dL_strains_175 : decode cL_strains 175 = .ok (.iconst 4, 1) := by decide +kernel
theorem dL_strains_176 : decode cL_strains 176 = .ok (.invokevirtual 29, 3) := by decide +kernel
theorem dL_strains_179 : decode cL_strains 179 = .ok (.aload_n 0, 1) := by decide +kernel
theorem dL_strains_180 : decode cL_strains 180 = .ok (.iload_n 1, 1) := by decide +kernel
theorem dL_strains_181 : decode cL_strains 181 = .ok (.iconst 0, 1) := by decide +kernel
theorem dL_strains_182 : decode cL_strains 182 = .ok (.bipush 6, 2) := by decide +kernel
theorem dL_strains_184 : decode cL_strains 184 = .ok (.invokevirtual 23, 3) := by decide +kernel
theorem dL_strains_187 : decode cL_strains 187 = .ok (.if_icmp .ne 53, 3) := by decide +kernel
theorem dL_strains_190 : decode cL_strains 190 = .ok (.iload 5, 2) := by decide +kernel
theorem dL_strains_192 : decode cL_strains 192 = .ok (.ifCond .eq 20, 3) := by decide +kernel
theorem dL_strains_195 : decode cL_strains 195 = .ok (.aload_n 0, 1) := by decide +kernel
theorem dL_strains_196 : decode cL_strains 196 = .ok (.iload_n 1, 1) := by decide +kernel
theorem dL_strains_197 : decode cL_strains 197 = .ok (.iconst 5, 1) := by decide +kernel
theorem dL_strains_198 : decode cL_strains 198 = .ok (.invokevirtual 29, 3) := by decide +kernel
theorem dL_strains_201 : decode cL_strains 201 = .ok (.aload_n 0, 1) := by decide +kernel
theorem dL_strains_202 : decode cL_strains 202 = .ok (.iload_n 1, 1) := by decide +kernel
theorem dL_strains_203 : decode cL_strains 203 = .ok (.iconst 2, 1) := by decide +kernel
theorem dL_strains_204 : decode cL_strains 204 = .ok (.bipush 6, 2) := by decide +kernel
theorem dL_strains_206 : decode cL_strains 206 = .ok (.invokevirtual 23, 3) := by decide +kernel
theorem dL_strains_209 : decode cL_strains 209 = .ok (.if_icmp .ne 31, 3) := by decide +kernel
theorem dL_strains_212 : decode cL_strains 212 = .ok (.aload_n 0, 1) := by decide +kernel
theorem dL_strains_213 : decode cL_strains 213 = .ok (.iload_n 1, 1) := by decide +kernel
theorem dL_strains_214 : decode cL_strains 214 = .ok (.bipush 8, 2) := by decide +kernel
theorem dL_strains_216 : decode cL_strains 216 = .ok (.invokevirtual 29, 3) := by decide +kernel
theorem dL_strains_219 : decode cL_strains 219 = .ok (.ldc 49, 2) := by decide +kernel
theorem dL_strains_221 : decode cL_strains 221 = .ok (.if_icmp .ne 19, 3) := by decide +kernel
theorem dL_strains_224 : decode cL_strains 224 = .ok (.aload_n 0, 1) := by decide +kernel
theorem dL_strains_225 : decode cL_strains 225 = .ok (.iload_n 1, 1) := by decide +kernel
theorem dL_strains_226 : decode cL_strains 226 = .ok (.bipush 24, 2) := by decide +kernel
theorem dL_strains_228 : decode cL_strains 228 = .ok (.invokevirtual 46, 3) := by decide +kernel
theorem dL_strains_231 : decode cL_strains 231 = .ok (.ldc 49, 2) := by decide +kernel
theorem dL_strains_233 : decode cL_strains 233 = .ok (.if_icmp .ne 7, 3) := by decide +kernel
theorem dL_strains_236 : decode cL_strains 236 = .ok (.iconst 1, 1) := by decide +kernel
theorem dL_strains_237 : decode cL_strains 237 = .ok (.goto 4, 3) := by decide +kernel
theorem dL_strains_240 : decode cL_strains 240 = .ok (.iconst 0, 1) := by decide +kernel
theorem dL_strains_241 : decode cL_strains 241 = .ok (.ireturn, 1) := by decide +kernel
theorem dL_gauges_0 : decode cL_gauges 0 = .ok (.ldc2_w 32, 3) := by decide +kernel
theorem dL_gauges_3 : decode cL_gauges 3 = .ok (.aload_n 0, 1) := by decide +kernel
theorem dL_gauges_4 : decode cL_gauges 4 = .ok (.iload_n 1, 1) := by decide +kernel
theorem dL_gauges_5 : decode cL_gauges 5 = .ok (.iconst 2, 1) := by decide +kernel
theorem dL_gauges_6 : decode cL_gauges 6 = .ok (.invokevirtual 19, 3) := by decide +kernel
theorem dL_gauges_9 : decode cL_gauges 9 = .ok (.i2l, 1) := by decide +kernel
theorem dL_gauges_10 : decode cL_gauges 10 = .ok (.lmul, 1) := by decide +kernel
theorem dL_gauges_11 : decode cL_gauges 11 = .ok (.lstore_n 2, 1) := by decide +kernel
theorem dL_gauges_12 : decode cL_gauges 12 = .ok (.aload_n 0, 1) := by decide +kernel
theorem dL_gauges_13 : decode cL_gauges 13 = .ok (.iload_n 1, 1) := by decide +kernel
theorem dL_gauges_14 : decode cL_gauges 14 = .ok (.bipush 9, 2) := by decide +kernel
theorem dL_gauges_16 : decode cL_gauges 16 = .ok (.invokevirtual 19, 3) := by decide +kernel
theorem dL_gauges_19 : decode cL_gauges 19 = .ok (.istore 4, 2) := by decide +kernel
theorem dL_gauges_21 : decode cL_gauges 21 = .ok (.iload 4, 2) := by decide +kernel
theorem dL_gauges_23 : decode cL_gauges 23 = .ok (.i2l, 1) := by decide +kernel
theorem dL_gauges_24 : decode cL_gauges 24 = .ok (.lload_n 2, 1) := by decide +kernel
theorem dL_gauges_25 : decode cL_gauges 25 = .ok (.lmul, 1) := by decide +kernel
theorem dL_gauges_26 : decode cL_gauges 26 = .ok (.lload_n 2, 1) := by decide +kernel
theorem dL_gauges_27 : decode cL_gauges 27 = .ok (.aload_n 0, 1) := by decide +kernel
theorem dL_gauges_28 : decode cL_gauges 28 = .ok (.iload_n 1, 1) := by decide +kernel
theorem dL_gauges_29 : decode cL_gauges 29 = .ok (.iconst 4, 1) := by decide +kernel
theorem dL_gauges_30 : decode cL_gauges 30 = .ok (.invokevirtual 19, 3) := by decide +kernel
theorem dL_gauges_33 : decode cL_gauges 33 = .ok (.i2l, 1) := by decide +kernel
theorem dL_gauges_34 : decode cL_gauges 34 = .ok (.ladd, 1) := by decide +kernel
theorem dL_gauges_35 : decode cL_gauges 35 = .ok (.ldiv, 1) := by decide +kernel
theorem dL_gauges_36 : decode cL_gauges 36 = .ok (.l2i, 1) := by decide +kernel
theorem dL_gauges_37 : decode cL_gauges 37 = .ok (.istore 5, 2) := by decide +kernel
theorem dL_gauges_39 : decode cL_gauges 39 = .ok (.iconst 0, 1) := by decide +kernel
theorem dL_gauges_40 : decode cL_gauges 40 = .ok (.istore 6, 2) := by decide +kernel
theorem dL_gauges_42 : decode cL_gauges 42 = .ok (.iload 4, 2) := by decide +kernel
theorem dL_gauges_44 : decode cL_gauges 44 = .ok (.aload_n 0, 1) := by decide +kernel
theorem dL_gauges_45 : decode cL_gauges 45 = .ok (.iload_n 1, 1) := by decide +kernel
theorem dL_gauges_46 : decode cL_gauges 46 = .ok (.iconst 2, 1) := by decide +kernel
theorem dL_gauges_47 : decode cL_gauges 47 = .ok (.invokevirtual 19, 3) := by decide +kernel
theorem dL_gauges_50 : decode cL_gauges 50 = .ok (.ldc 50, 2) := by decide +kernel
theorem dL_gauges_52 : decode cL_gauges 52 = .ok (.imul, 1) := by decide +kernel
theorem dL_gauges_53 : decode cL_gauges 53 = .ok (.aload_n 0, 1) := by decide +kernel
theorem dL_gauges_54 : decode cL_gauges 54 = .ok (.iload_n 1, 1) := by decide +kernel
theorem dL_gauges_55 : decode cL_gauges 55 = .ok (.iconst 2, 1) := by decide +kernel
theorem dL_gauges_56 : decode cL_gauges 56 = .ok (.invokevirtual 19, 3) := by decide +kernel
theorem dL_gauges_59 : decode cL_gauges 59 = .ok (.sipush 1000, 3) := by decide +kernel
theorem dL_gauges_62 : decode cL_gauges 62 = .ok (.aload_n 0, 1) := by decide +kernel
theorem dL_gauges_63 : decode cL_gauges 63 = .ok (.bipush 7, 2) := by decide +kernel
theorem dL_gauges_65 : decode cL_gauges 65 = .ok (.invokevirtual 13, 3) := by decide +kernel
theorem dL_gauges_68 : decode cL_gauges 68 = .ok (.imul, 1) := by decide +kernel
theorem dL_gauges_69 : decode cL_gauges 69 = .ok (.iadd, 1) := by decide +kernel
theorem dL_gauges_70 : decode cL_gauges 70 = .ok (.idiv, 1) := by decide +kernel
theorem dL_gauges_71 : decode cL_gauges 71 = .ok (.if_icmp .eq 5, 3) := by decide +kernel
theorem dL_gauges_74 : decode cL_gauges 74 = .ok (.iconst 0, 1) := by decide +kernel
theorem dL_gauges_75 : decode cL_gauges 75 = .ok (.ireturn, 1) := by decide +kernel
theorem dL_gauges_76 : decode cL_gauges 76 = .ok (.iconst 0, 1) := by decide +kernel
theorem dL_gauges_77 : decode cL_gauges 77 = .ok (.istore 7, 2) := by decide +kernel
theorem dL_gauges_79 : decode cL_gauges 79 = .ok (.iload 7, 2) := by decide +kernel
theorem dL_gauges_81 : decode cL_gauges 81 = .ok (.iconst 3, 1) := by decide +kernel
theorem dL_gauges_82 : decode cL_gauges 82 = .ok (.if_icmp .ge 216, 3) := by decide +kernel
theorem dL_gauges_85 : decode cL_gauges 85 = .ok (.aload_n 0, 1) := by decide +kernel
theorem dL_gauges_86 : decode cL_gauges 86 = .ok (.iload_n 1, 1) := by decide +kernel
theorem dL_gauges_87 : decode cL_gauges 87 = .ok (.iload 7, 2) := by decide +kernel
theorem dL_gauges_89 : decode cL_gauges 89 = .ok (.iconst 2, 1) := by decide +kernel
theorem dL_gauges_90 : decode cL_gauges 90 = .ok (.invokevirtual 23, 3) := by decide +kernel
theorem dL_gauges_93 : decode cL_gauges 93 = .ok (.istore 8, 2) := by decide +kernel
theorem dL_gauges_95 : decode cL_gauges 95 = .ok (.aload_n 0, 1) := by decide +kernel
theorem dL_gauges_96 : decode cL_gauges 96 = .ok (.iload_n 1, 1) := by decide +kernel
theorem dL_gauges_97 : decode cL_gauges 97 = .ok (.iload 7, 2) := by decide +kernel
theorem dL_gauges_99 : decode cL_gauges 99 = .ok (.iconst 3, 1) := by decide +kernel
theorem dL_gauges_100 : decode cL_gauges 100 = .ok (.invokevirtual 23, 3) := by decide +kernel
theorem dL_gauges_103 : decode cL_gauges 103 = .ok (.istore 9, 2) := by decide +kernel
theorem dL_gauges_105 : decode cL_gauges 105 = .ok (.iload 8, 2) := by decide +kernel
theorem dL_gauges_107 : decode cL_gauges 107 = .ok (.aload_n 0, 1) := by decide +kernel
theorem dL_gauges_108 : decode cL_gauges 108 = .ok (.iload_n 1, 1) := by decide +kernel
theorem dL_gauges_109 : decode cL_gauges 109 = .ok (.bipush 8, 2) := by decide +kernel
theorem dL_gauges_111 : decode cL_gauges 111 = .ok (.invokevirtual 19, 3) := by decide +kernel
theorem dL_gauges_114 : decode cL_gauges 114 = .ok (.iconst 1, 1) := by decide +kernel
theorem dL_gauges_115 : decode cL_gauges 115 = .ok (.if_icmp .ne 8, 3) := by decide +kernel
theorem dL_gauges_118 : decode cL_gauges 118 = .ok (.iload 5, 2) := by decide +kernel
theorem dL_gauges_120 : decode cL_gauges 120 = .ok (.goto 4, 3) := by decide +kernel
theorem dL_gauges_123 : decode cL_gauges 123 = .ok (.iconst 0, 1) := by decide +kernel
theorem dL_gauges_124 : decode cL_gauges 124 = .ok (.isub, 1) := by decide +kernel
theorem dL_gauges_125 : decode cL_gauges 125 = .ok (.istore 10, 2) := by decide +kernel
theorem dL_gauges_127 : decode cL_gauges 127 = .ok (.iload 6, 2) := by decide +kernel
theorem dL_gauges_129 : decode cL_gauges 129 = .ok (.iload 8, 2) := by decide +kernel
theorem dL_gauges_131 : decode cL_gauges 131 = .ok (.invokestatic 51, 3) := by decide +kernel
theorem dL_gauges_134 : decode cL_gauges 134 = .ok (.sipush 30000, 3) := by decide +kernel
theorem dL_gauges_137 : decode cL_gauges 137 = .ok (.if_icmp .le 7, 3) := by decide +kernel
theorem dL_gauges_140 : decode cL_gauges 140 = .ok (.iconst 1, 1) := by decide +kernel
theorem dL_gauges_141 : decode cL_gauges 141 = .ok (.goto 4, 3) := by decide +kernel
theorem dL_gauges_144 : decode cL_gauges 144 = .ok (.iconst 0, 1) := by decide +kernel
theorem dL_gauges_145 : decode cL_gauges 145 = .ok (.iadd, 1) := by decide +kernel
theorem dL_gauges_146 : decode cL_gauges 146 = .ok (.istore 6, 2) := by decide +kernel
theorem dL_gauges_148 : decode cL_gauges 148 = .ok (.iload 9, 2) := by decide +kernel
theorem dL_gauges_150 : decode cL_gauges 150 = .ok (.iload 8, 2) := by decide +kernel
theorem dL_gauges_152 : decode cL_gauges 152 = .ok (.sipush 30000, 3) := by decide +kernel
theorem dL_gauges_155 : decode cL_gauges 155 = .ok (.if_icmp .le 9, 3) := by decide +kernel
theorem dL_gauges_158 : decode cL_gauges 158 = .ok (.sipush 30000, 3) := by decide +kernel
theorem dL_gauges_161 : decode cL_gauges 161 = .ok (.goto 19, 3) := by decide +kernel
theorem dL_gauges_164 : decode cL_gauges 164 = .ok (.iload 8, 2) := by decide +kernel
theorem dL_gauges_166 : decode cL_gauges 166 = .ok (.sipush (-30000), 3) := by decide +kernel
theorem dL_gauges_169 : decode cL_gauges 169 = .ok (.if_icmp .ge 9, 3) := by decide +kernel
theorem dL_gauges_172 : decode cL_gauges 172 = .ok (.sipush (-30000), 3) := by decide +kernel
theorem dL_gauges_175 : decode cL_gauges 175 = .ok (.goto 5, 3) := by decide +kernel
theorem dL_gauges_178 : decode cL_gauges 178 = .ok (.iload 8, 2) := by decide +kernel
theorem dL_gauges_180 : decode cL_gauges 180 = .ok (.if_icmp .eq 5, 3) := by decide +kernel
theorem dL_gauges_183 : decode cL_gauges 183 = .ok (.iconst 0, 1) := by decide +kernel
theorem dL_gauges_184 : decode cL_gauges 184 = .ok (.ireturn, 1) := by decide +kernel
theorem dL_gauges_185 : decode cL_gauges 185 = .ok (.iload 10, 2) := by decide +kernel
theorem dL_gauges_187 : decode cL_gauges 187 = .ok (.invokestatic 51, 3) := by decide +kernel
theorem dL_gauges_190 : decode cL_gauges 190 = .ok (.sipush 30000, 3) := by decide +kernel
theorem dL_gauges_193 : decode cL_gauges 193 = .ok (.if_icmp .gt 33, 3) := by decide +kernel
theorem dL_gauges_196 : decode cL_gauges 196 = .ok (.iload 10, 2) := by decide +kernel
theorem dL_gauges_198 : decode cL_gauges 198 = .ok (.iload 5, 2) := by decide +kernel
theorem dL_gauges_200 : decode cL_gauges 200 = .ok (.iadd, 1) := by decide +kernel
theorem dL_gauges_201 : decode cL_gauges 201 = .ok (.invokestatic 51, 3) := by decide +kernel
theorem dL_gauges_204 : decode cL_gauges 204 = .ok (.sipush 30000, 3) := by decide +kernel
theorem dL_gauges_207 : decode cL_gauges 207 = .ok (.if_icmp .gt 19, 3) := by decide +kernel
theorem dL_gauges_210 : decode cL_gauges 210 = .ok (.aload_n 0, 1) := by decide +kernel
theorem dL_gauges_211 : decode cL_gauges 211 = .ok (.iload_n 1, 1) := by decide +kernel
theorem dL_gauges_212 : decode cL_gauges 212 = .ok (.iload 7, 2) := by decide +kernel
theorem dL_gauges_214 : decode cL_gauges 214 = .ok (.bipush 7, 2) := by decide +kernel
theorem dL_gauges_216 : decode cL_gauges 216 = .ok (.invokevirtual 23, 3) := by decide +kernel
theorem dL_gauges_219 : decode cL_gauges 219 = .ok (.iload 5, 2) := by decide +kernel
theorem dL_gauges_221 : decode cL_gauges 221 = .ok (.if_icmp .eq 5, 3) := by decide +kernel
theorem dL_gauges_224 : decode cL_gauges 224 = .ok (.iconst 0, 1) := by decide +kernel
theorem dL_gauges_225 : decode cL_gauges 225 = .ok (.ireturn, 1) := by decide +kernel
theorem dL_gauges_226 : decode cL_gauges 226 = .ok (.iload 9, 2) := by decide +kernel
theorem dL_gauges_228 : decode cL_gauges 228 = .ok (.i2l, 1) := by decide +kernel
theorem dL_gauges_229 : decode cL_gauges 229 = .ok (.aload_n 0, 1) := by decide +kernel
theorem dL_gauges_230 : decode cL_gauges 230 = .ok (.iload_n 1, 1) := by decide +kernel
theorem dL_gauges_231 : decode cL_gauges 231 = .ok (.iload 7, 2) := by decide +kernel
theorem dL_gauges_233 : decode cL_gauges 233 = .ok (.iconst 5, 1) := by decide +kernel
theorem dL_gauges_234 : decode cL_gauges 234 = .ok (.invokevirtual 23, 3) := by decide +kernel
theorem dL_gauges_237 : decode cL_gauges 237 = .ok (.i2l, 1) := by decide +kernel
theorem dL_gauges_238 : decode cL_gauges 238 = .ok (.lmul, 1) := by decide +kernel
theorem dL_gauges_239 : decode cL_gauges 239 = .ok (.ldc2_w 32, 3) := by decide +kernel
theorem dL_gauges_242 : decode cL_gauges 242 = .ok (.ldiv, 1) := by decide +kernel
theorem dL_gauges_243 : decode cL_gauges 243 = .ok (.lstore 11, 2) := by decide +kernel
theorem dL_gauges_245 : decode cL_gauges 245 = .ok (.aload_n 0, 1) := by decide +kernel
theorem dL_gauges_246 : decode cL_gauges 246 = .ok (.iload_n 1, 1) := by decide +kernel
theorem dL_gauges_247 : decode cL_gauges 247 = .ok (.iload 7, 2) := by decide +kernel
theorem dL_gauges_249 : decode cL_gauges 249 = .ok (.bipush 6, 2) := by decide +kernel
theorem dL_gauges_251 : decode cL_gauges 251 = .ok (.invokevirtual 23, 3) := by decide +kernel
theorem dL_gauges_254 : decode cL_gauges 254 = .ok (.i2l, 1) := by decide +kernel
theorem dL_gauges_255 : decode cL_gauges 255 = .ok (.lload 11, 2) := by decide +kernel
theorem dL_gauges_257 : decode cL_gauges 257 = .ok (.ldc2_w 37, 3) := by decide +kernel
theorem dL_gauges_260 : decode cL_gauges 260 = .ok (.lmul, 1) := by decide +kernel
theorem dL_gauges_261 : decode cL_gauges 261 = .ok (.aload_n 0, 1) := by decide +kernel
theorem dL_gauges_262 : decode cL_gauges 262 = .ok (.iload_n 1, 1) := by decide +kernel
theorem dL_gauges_263 : decode cL_gauges 263 = .ok (.iconst 3, 1) := by decide +kernel
theorem dL_gauges_264 : decode cL_gauges 264 = .ok (.invokevirtual 19, 3) := by decide +kernel
theorem dL_gauges_267 : decode cL_gauges 267 = .ok (.i2l, 1) := by decide +kernel
theorem dL_gauges_268 : decode cL_gauges 268 = .ok (.ldiv, 1) := by decide +kernel
theorem dL_gauges_269 : decode cL_gauges 269 = .ok (.lcmp, 1) := by decide +kernel
theorem dL_gauges_270 : decode cL_gauges 270 = .ok (.ifCond .ne 20, 3) := by decide +kernel
theorem dL_gauges_273 : decode cL_gauges 273 = .ok (.aload_n 0, 1) := by decide +kernel
theorem dL_gauges_274 : decode cL_gauges 274 = .ok (.iload_n 1, 1) := by decide +kernel
theorem dL_gauges_275 : decode cL_gauges 275 = .ok (.iload 7, 2) := by decide +kernel
theorem dL_gauges_277 : decode cL_gauges 277 = .ok (.iconst 4, 1) := by decide +kernel
theorem dL_gauges_278 : decode cL_gauges 278 = .ok (.invokevirtual 23, 3) := by decide +kernel
theorem dL_gauges_281 : decode cL_gauges 281 = .ok (.invokestatic 51, 3) := by decide +kernel
theorem dL_gauges_284 : decode cL_gauges 284 = .ok (.sipush 15000, 3) := by decide +kernel
theorem dL_gauges_287 : decode cL_gauges 287 = .ok (.if_icmp .le 5, 3) := by decide +kernel
theorem dL_gauges_290 : decode cL_gauges 290 = .ok (.iconst 0, 1) := by decide +kernel
theorem dL_gauges_291 : decode cL_gauges 291 = .ok (.ireturn, 1) := by decide +kernel
theorem dL_gauges_292 : decode cL_gauges 292 = .ok (.iinc 7 1, 3) := by decide +kernel
theorem dL_gauges_295 : decode cL_gauges 295 = .ok (.goto (-216), 3) := by decide +kernel
theorem dL_gauges_298 : decode cL_gauges 298 = .ok (.iload 6, 2) := by decide +kernel
theorem dL_gauges_300 : decode cL_gauges 300 = .ok (.aload_n 0, 1) := by decide +kernel
theorem dL_gauges_301 : decode cL_gauges 301 = .ok (.iload_n 1, 1) := by decide +kernel
theorem dL_gauges_302 : decode cL_gauges 302 = .ok (.bipush 10, 2) := by decide +kernel
theorem dL_gauges_304 : decode cL_gauges 304 = .ok (.invokevirtual 19, 3) := by decide +kernel
theorem dL_gauges_307 : decode cL_gauges 307 = .ok (.if_icmp .ne 32, 3) := by decide +kernel
theorem dL_gauges_310 : decode cL_gauges 310 = .ok (.aload_n 0, 1) := by decide +kernel
theorem dL_gauges_311 : decode cL_gauges 311 = .ok (.iload_n 1, 1) := by decide +kernel
theorem dL_gauges_312 : decode cL_gauges 312 = .ok (.iconst 3, 1) := by decide +kernel
theorem dL_gauges_313 : decode cL_gauges 313 = .ok (.iconst 0, 1) := by decide +kernel
theorem dL_gauges_314 : decode cL_gauges 314 = .ok (.invokevirtual 23, 3) := by decide +kernel
theorem dL_gauges_317 : decode cL_gauges 317 = .ok (.ldc 56, 2) := by decide +kernel
theorem dL_gauges_319 : decode cL_gauges 319 = .ok (.if_icmp .ne 20, 3) := by decide +kernel
theorem dL_gauges_322 : decode cL_gauges 322 = .ok (.aload_n 0, 1) := by decide +kernel
theorem dL_gauges_323 : decode cL_gauges 323 = .ok (.iload_n 1, 1) := by decide +kernel
theorem dL_gauges_324 : decode cL_gauges 324 = .ok (.iconst 0, 1) := by decide +kernel
theorem dL_gauges_325 : decode cL_gauges 325 = .ok (.bipush 8, 2) := by decide +kernel
theorem dL_gauges_327 : decode cL_gauges 327 = .ok (.invokevirtual 23, 3) := by decide +kernel
theorem dL_gauges_330 : decode cL_gauges 330 = .ok (.ldc 49, 2) := by decide +kernel
theorem dL_gauges_332 : decode cL_gauges 332 = .ok (.if_icmp .ne 7, 3) := by decide +kernel
theorem dL_gauges_335 : decode cL_gauges 335 = .ok (.iconst 1, 1) := by decide +kernel
theorem dL_gauges_336 : decode cL_gauges 336 = .ok (.goto 4, 3) := by decide +kernel
theorem dL_gauges_339 : decode cL_gauges 339 = .ok (.iconst 0, 1) := by decide +kernel
theorem dL_gauges_340 : decode cL_gauges 340 = .ok (.ireturn, 1) := by decide +kernel
theorem dL_lines_0 : decode cL_lines 0 = .ok (.aload_n 0, 1) := by decide +kernel
theorem dL_lines_1 : decode cL_lines 1 = .ok (.iconst 1, 1) := by decide +kernel
theorem dL_lines_2 : decode cL_lines 2 = .ok (.invokevirtual 13, 3) := by decide +kernel
theorem dL_lines_5 : decode cL_lines 5 = .ok (.istore_n 1, 1) := by decide +kernel
theorem dL_lines_6 : decode cL_lines 6 = .ok (.aload_n 0, 1) := by decide +kernel
theorem dL_lines_7 : decode cL_lines 7 = .ok (.iconst 5, 1) := by decide +kernel
theorem dL_lines_8 : decode cL_lines 8 = .ok (.invokevirtual 13, 3) := by decide +kernel
theorem dL_lines_11 : decode cL_lines 11 = .ok (.istore_n 2, 1) := by decide +kernel
theorem dL_lines_12 : decode cL_lines 12 = .ok (.iconst 0, 1) := by decide +kernel
theorem dL_lines_13 : decode cL_lines 13 = .ok (.istore_n 3, 1) := by decide +kernel
theorem dL_lines_14 : decode cL_lines 14 = .ok (.iconst 0, 1) := by decide +kernel
theorem dL_lines_15 : decode cL_lines 15 = .ok (.istore 4, 2) := by decide +kernel
theorem dL_lines_17 : decode cL_lines 17 = .ok (.iload 4, 2) := by decide +kernel
theorem dL_lines_19 : decode cL_lines 19 = .ok (.iload_n 1, 1) := by decide +kernel
theorem dL_lines_20 : decode cL_lines 20 = .ok (.if_icmp .ge 171, 3) := by decide +kernel
theorem dL_lines_23 : decode cL_lines 23 = .ok (.aload_n 0, 1) := by decide +kernel
theorem dL_lines_24 : decode cL_lines 24 = .ok (.aload_n 0, 1) := by decide +kernel
theorem dL_lines_25 : decode cL_lines 25 = .ok (.iload 4, 2) := by decide +kernel
theorem dL_lines_27 : decode cL_lines 27 = .ok (.iconst 2, 1) := by decide +kernel
theorem dL_lines_28 : decode cL_lines 28 = .ok (.invokevirtual 34, 3) := by decide +kernel
theorem dL_lines_31 : decode cL_lines 31 = .ok (.iconst 0, 1) := by decide +kernel
theorem dL_lines_32 : decode cL_lines 32 = .ok (.invokevirtual 19, 3) := by decide +kernel
theorem dL_lines_35 : decode cL_lines 35 = .ok (.iload_n 2, 1) := by decide +kernel
theorem dL_lines_36 : decode cL_lines 36 = .ok (.isub, 1) := by decide +kernel
theorem dL_lines_37 : decode cL_lines 37 = .ok (.invokestatic 51, 3) := by decide +kernel
theorem dL_lines_40 : decode cL_lines 40 = .ok (.istore 5, 2) := by decide +kernel
theorem dL_lines_42 : decode cL_lines 42 = .ok (.iload 4, 2) := by decide +kernel
theorem dL_lines_44 : decode cL_lines 44 = .ok (.iconst 1, 1) := by decide +kernel
theorem dL_lines_45 : decode cL_lines 45 = .ok (.iadd, 1) := by decide +kernel
theorem dL_lines_46 : decode cL_lines 46 = .ok (.istore 6, 2) := by decide +kernel
theorem dL_lines_48 : decode cL_lines 48 = .ok (.iload 6, 2) := by decide +kernel
theorem dL_lines_50 : decode cL_lines 50 = .ok (.iload_n 1, 1) := by decide +kernel
theorem dL_lines_51 : decode cL_lines 51 = .ok (.if_icmp .ge 88, 3) := by decide +kernel
theorem dL_lines_54 : decode cL_lines 54 = .ok (.aload_n 0, 1) := by decide +kernel
theorem dL_lines_55 : decode cL_lines 55 = .ok (.iload 6, 2) := by decide +kernel
theorem dL_lines_57 : decode cL_lines 57 = .ok (.iconst 3, 1) := by decide +kernel
theorem dL_lines_58 : decode cL_lines 58 = .ok (.invokevirtual 34, 3) := by decide +kernel
theorem dL_lines_61 : decode cL_lines 61 = .ok (.aload_n 0, 1) := by decide +kernel
theorem dL_lines_62 : decode cL_lines 62 = .ok (.iload 4, 2) := by decide +kernel
theorem dL_lines_64 : decode cL_lines 64 = .ok (.iconst 3, 1) := by decide +kernel
theorem dL_lines_65 : decode cL_lines 65 = .ok (.invokevirtual 34, 3) := by decide +kernel
theorem dL_lines_68 : decode cL_lines 68 = .ok (.isub, 1) := by decide +kernel
theorem dL_lines_69 : decode cL_lines 69 = .ok (.istore 7, 2) := by decide +kernel
theorem dL_lines_71 : decode cL_lines 71 = .ok (.aload_n 0, 1) := by decide +kernel
theorem dL_lines_72 : decode cL_lines 72 = .ok (.aload_n 0, 1) := by decide +kernel
theorem dL_lines_73 : decode cL_lines 73 = .ok (.iload 6, 2) := by decide +kernel
theorem dL_lines_75 : decode cL_lines 75 = .ok (.iconst 2, 1) := by decide +kernel
theorem dL_lines_76 : decode cL_lines 76 = .ok (.invokevirtual 34, 3) := by decide +kernel
theorem dL_lines_79 : decode cL_lines 79 = .ok (.iconst 0, 1) := by decide +kernel
theorem dL_lines_80 : decode cL_lines 80 = .ok (.invokevirtual 19, 3) := by decide +kernel
theorem dL_lines_83 : decode cL_lines 83 = .ok (.iload_n 2, 1) := by decide +kernel
theorem dL_lines_84 : decode cL_lines 84 = .ok (.isub, 1) := by decide +kernel
theorem dL_lines_85 : decode cL_lines 85 = .ok (.invokestatic 51, 3) := by decide +kernel
theorem dL_lines_88 : decode cL_lines 88 = .ok (.istore 8, 2) := by decide +kernel
theorem dL_lines_90 : decode cL_lines 90 = .ok (.iload 7, 2) := by decide +kernel
theorem dL_lines_92 : decode cL_lines 92 = .ok (.ifCond .gt 39, 3) := by decide +kernel
theorem dL_lines_95 : decode cL_lines 95 = .ok (.iload 7, 2) := by decide +kernel
theorem dL_lines_97 : decode cL_lines 97 = .ok (.ifCond .ne 36, 3) := by decide +kernel
theorem dL_lines_100 : decode cL_lines 100 = .ok (.iload 8, 2) := by decide +kernel
theorem dL_lines_102 : decode cL_lines 102 = .ok (.iload 5, 2) := by decide +kernel
theorem dL_lines_104 : decode cL_lines 104 = .ok (.if_icmp .lt 27, 3) := by decide +kernel
theorem dL_lines_107 : decode cL_lines 107 = .ok (.iload 8, 2) := by decide +kernel
theorem dL_lines_109 : decode cL_lines 109 = .ok (.iload 5, 2) := by decide +kernel
