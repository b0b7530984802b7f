theorem dX8_next_19 : decode cX8_next 19 = .ok (.aload_n 0, 1) := by decide +kernel
theorem dX8_next_20 : decode cX8_next 20 = .ok (.getfield 7, 3) := by decide +kernel
theorem dX8_next_23 : decode cX8_next 23 = .ok (.iconst 1, 1) := by decide +kernel
theorem dX8_next_24 : decode cX8_next 24 = .ok (.iaload, 1) := by decide +kernel
theorem dX8_next_25 : decode cX8_next 25 = .ok (.invokevirtual 180, 3) := by decide +kernel
theorem dX8_next_28 : decode cX8_next 28 = .ok (.iconst 0, 1) := by decide +kernel
theorem dX8_next_29 : decode cX8_next 29 = .ok (.invokevirtual 145, 3) := by decide +kernel
theorem dX8_next_32 : decode cX8_next 32 = .ok (.istore_n 1, 1) := by decide +kernel
theorem dX8_next_33 : decode cX8_next 33 = .ok (.aload_n 0, 1) := by decide +kernel
theorem dX8_next_34 : decode cX8_next 34 = .ok (.invokevirtual 192, 3) := by decide +kernel
theorem dX8_next_37 : decode cX8_next 37 = .ok (.istore_n 2, 1) := by decide +kernel
theorem dX8_next_38 : decode cX8_next 38 = .ok (.iload_n 1, 1) := by decide +kernel
theorem dX8_next_39 : decode cX8_next 39 = .ok (.ireturn, 1) := by decide +kernel
theorem dX8_workOff_0 : decode cX8_workOff 0 = .ok (.aload_n 0, 1) := by decide +kernel
theorem dX8_workOff_1 : decode cX8_workOff 1 = .ok (.getfield 7, 3) := by decide +kernel
theorem dX8_workOff_4 : decode cX8_workOff 4 = .ok (.iconst 4, 1) := by decide +kernel
theorem dX8_workOff_5 : decode cX8_workOff 5 = .ok (.iaload, 1) := by decide +kernel
theorem dX8_workOff_6 : decode cX8_workOff 6 = .ok (.ifCond .ne 6, 3) := by decide +kernel
theorem dX8_workOff_9 : decode cX8_workOff 9 = .ok (.ldc 49, 2) := by decide +kernel
theorem dX8_workOff_11 : decode cX8_workOff 11 = .ok (.ireturn, 1) := by decide +kernel
theorem dX8_workOff_12 : decode cX8_workOff 12 = .ok (.aload_n 0, 1) := by decide +kernel
theorem dX8_workOff_13 : decode cX8_workOff 13 = .ok (.invokevirtual 58, 3) := by decide +kernel
theorem dX8_workOff_16 : decode cX8_workOff 16 = .ok (.iconst 0, 1) := by decide +kernel
theorem dX8_workOff_17 : decode cX8_workOff 17 = .ok (.istore_n 1, 1) := by decide +kernel
theorem dX8_workOff_18 : decode cX8_workOff 18 = .ok (.aload_n 0, 1) := by decide +kernel
theorem dX8_workOff_19 : decode cX8_workOff 19 = .ok (.getfield 7, 3) := by decide +kernel
theorem dX8_workOff_22 : decode cX8_workOff 22 = .ok (.iconst 4, 1) := by decide +kernel
theorem dX8_workOff_23 : decode cX8_workOff 23 = .ok (.iaload, 1) := by decide +kernel
theorem dX8_workOff_24 : decode cX8_workOff 24 = .ok (.ifCond .le 21, 3) := by decide +kernel
theorem dX8_workOff_27 : decode cX8_workOff 27 = .ok (.iload_n 1, 1) := by decide +kernel
theorem dX8_workOff_28 : decode cX8_workOff 28 = .ok (.aload_n 0, 1) := by decide +kernel
theorem dX8_workOff_29 : decode cX8_workOff 29 = .ok (.invokevirtual 192, 3) := by decide +kernel
theorem dX8_workOff_32 : decode cX8_workOff 32 = .ok (.ifCond .eq 7, 3) := by decide +kernel
theorem dX8_workOff_35 : decode cX8_workOff 35 = .ok (.iconst 1, 1) := by decide +kernel
theorem dX8_workOff_36 : decode cX8_workOff 36 = .ok (.goto 4, 3) := by decide +kernel
theorem dX8_workOff_39 : decode cX8_workOff 39 = .ok (.iconst 0, 1) := by decide +kernel
theorem dX8_workOff_40 : decode cX8_workOff 40 = .ok (.iadd, 1) := by decide +kernel
theorem dX8_workOff_41 : decode cX8_workOff 41 = .ok (.istore_n 1, 1) := by decide +kernel
theorem dX8_workOff_42 : decode cX8_workOff 42 = .ok (.goto (-24), 3) := by decide +kernel
theorem dX8_workOff_45 : decode cX8_workOff 45 = .ok (.iload_n 1, 1) := by decide +kernel
theorem dX8_workOff_46 : decode cX8_workOff 46 = .ok (.ireturn, 1) := by decide +kernel
theorem dX8_type_0 : decode cX8_type 0 = .ok (.aload_n 0, 1) := by decide +kernel
theorem dX8_type_1 : decode cX8_type 1 = .ok (.getfield 196, 3) := by decide +kernel
theorem dX8_type_4 : decode cX8_type 4 = .ok (.bipush 60, 2) := by decide +kernel
theorem dX8_type_6 : decode cX8_type 6 = .ok (.if_icmp .ne 9, 3) := by decide +kernel
theorem dX8_type_9 : decode cX8_type 9 = .ok (.aload_n 0, 1) := by decide +kernel
theorem dX8_type_10 : decode cX8_type 10 = .ok (.iconst 1, 1) := by decide +kernel
theorem dX8_type_11 : decode cX8_type 11 = .ok (.invokevirtual 51, 3) := by decide +kernel
theorem dX8_type_14 : decode cX8_type 14 = .ok (.ireturn, 1) := by decide +kernel
theorem dX8_type_15 : decode cX8_type 15 = .ok (.aload_n 0, 1) := by decide +kernel
theorem dX8_type_16 : decode cX8_type 16 = .ok (.getfield 22, 3) := by decide +kernel
theorem dX8_type_19 : decode cX8_type 19 = .ok (.aload_n 0, 1) := by decide +kernel
theorem dX8_type_20 : decode cX8_type 20 = .ok (.getfield 196, 3) := by decide +kernel
theorem dX8_type_23 : decode cX8_type 23 = .ok (.iload_n 1, 1) := by decide +kernel
theorem dX8_type_24 : decode cX8_type 24 = .ok (.castore, 1) := by decide +kernel
theorem dX8_type_25 : decode cX8_type 25 = .ok (.aload_n 0, 1) := by decide +kernel
theorem dX8_type_26 : decode cX8_type 26 = .ok (.dup, 1) := by decide +kernel
theorem dX8_type_27 : decode cX8_type 27 = .ok (.getfield 196, 3) := by decide +kernel
theorem dX8_type_30 : decode cX8_type 30 = .ok (.iconst 1, 1) := by decide +kernel
theorem dX8_type_31 : decode cX8_type 31 = .ok (.iadd, 1) := by decide +kernel
theorem dX8_type_32 : decode cX8_type 32 = .ok (.putfield 196, 3) := by decide +kernel
theorem dX8_type_35 : decode cX8_type 35 = .ok (.aload_n 0, 1) := by decide +kernel
theorem dX8_type_36 : decode cX8_type 36 = .ok (.getfield 196, 3) := by decide +kernel
theorem dX8_type_39 : decode cX8_type 39 = .ok (.ireturn, 1) := by decide +kernel
theorem dX8_clearText_0 : decode cX8_clearText 0 = .ok (.aload_n 0, 1) := by decide +kernel
theorem dX8_clearText_1 : decode cX8_clearText 1 = .ok (.getfield 196, 3) := by decide +kernel
theorem dX8_clearText_4 : decode cX8_clearText 4 = .ok (.istore_n 1, 1) := by decide +kernel
theorem dX8_clearText_5 : decode cX8_clearText 5 = .ok (.aload_n 0, 1) := by decide +kernel
theorem dX8_clearText_6 : decode cX8_clearText 6 = .ok (.iconst 0, 1) := by decide +kernel
theorem dX8_clearText_7 : decode cX8_clearText 7 = .ok (.putfield 196, 3) := by decide +kernel
theorem dX8_clearText_10 : decode cX8_clearText 10 = .ok (.iload_n 1, 1) := by decide +kernel
theorem dX8_clearText_11 : decode cX8_clearText 11 = .ok (.ireturn, 1) := by decide +kernel
theorem dX8_isSign_0 : decode cX8_isSign 0 = .ok (.aload_n 0, 1) := by decide +kernel
theorem dX8_isSign_1 : decode cX8_isSign 1 = .ok (.getfield 199, 3) := by decide +kernel
theorem dX8_isSign_4 : decode cX8_isSign 4 = .ok (.aload_n 0, 1) := by decide +kernel
theorem dX8_isSign_5 : decode cX8_isSign 5 = .ok (.getfield 196, 3) := by decide +kernel
theorem dX8_isSign_8 : decode cX8_isSign 8 = .ok (.if_icmp .ge 20, 3) := by decide +kernel
theorem dX8_isSign_11 : decode cX8_isSign 11 = .ok (.aload_n 0, 1) := by decide +kernel
theorem dX8_isSign_12 : decode cX8_isSign 12 = .ok (.getfield 22, 3) := by decide +kernel
theorem dX8_isSign_15 : decode cX8_isSign 15 = .ok (.aload_n 0, 1) := by decide +kernel
theorem dX8_isSign_16 : decode cX8_isSign 16 = .ok (.getfield 199, 3) := by decide +kernel
theorem dX8_isSign_19 : decode cX8_isSign 19 = .ok (.caload, 1) := by decide +kernel
theorem dX8_isSign_20 : decode cX8_isSign 20 = .ok (.iload_n 1, 1) := by decide +kernel
theorem dX8_isSign_21 : decode cX8_isSign 21 = .ok (.if_icmp .ne 7, 3) := by decide +kernel
theorem dX8_isSign_24 : decode cX8_isSign 24 = .ok (.iconst 1, 1) := by decide +kernel
theorem dX8_isSign_25 : decode cX8_isSign 25 = .ok (.goto 4, 3) := by decide +kernel
theorem dX8_isSign_28 : decode cX8_isSign 28 = .ok (.iconst 0, 1) := by decide +kernel
theorem dX8_isSign_29 : decode cX8_isSign 29 = .ok (.ireturn, 1) := by decide +kernel
theorem dX8_digit_0 : decode cX8_digit 0 = .ok (.aload_n 0, 1) := by decide +kernel
theorem dX8_digit_1 : decode cX8_digit 1 = .ok (.getfield 199, 3) := by decide +kernel
theorem dX8_digit_4 : decode cX8_digit 4 = .ok (.aload_n 0, 1) := by decide +kernel
theorem dX8_digit_5 : decode cX8_digit 5 = .ok (.getfield 196, 3) := by decide +kernel
theorem dX8_digit_8 : decode cX8_digit 8 = .ok (.if_icmp .ge 24, 3) := by decide +kernel
theorem dX8_digit_11 : decode cX8_digit 11 = .ok (.aload_n 0, 1) := by decide +kernel
theorem dX8_digit_12 : decode cX8_digit 12 = .ok (.getfield 22, 3) := by decide +kernel
theorem dX8_digit_15 : decode cX8_digit 15 = .ok (.aload_n 0, 1) := by decide +kernel
theorem dX8_digit_16 : decode cX8_digit 16 = .ok (.getfield 199, 3) := by decide +kernel
theorem dX8_digit_19 : decode cX8_digit 19 = .ok (.caload, 1) := by decide +kernel
theorem dX8_digit_20 : decode cX8_digit 20 = .ok (.bipush 48, 2) := by decide +kernel
theorem dX8_digit_22 : decode cX8_digit 22 = .ok (.bipush 48, 2) := by decide +kernel
theorem dX8_digit_24 : decode cX8_digit 24 = .ok (.iload_n 1, 1) := by decide +kernel
theorem dX8_digit_25 : decode cX8_digit 25 = .ok (.iadd, 1) := by decide +kernel
theorem dX8_digit_26 : decode cX8_digit 26 = .ok (.invokestatic 37, 3) := by decide +kernel
theorem dX8_digit_29 : decode cX8_digit 29 = .ok (.ifCond .ne 6, 3) := by decide +kernel
theorem dX8_digit_32 : decode cX8_digit 32 = .ok (.ldc 49, 2) := by decide +kernel
theorem dX8_digit_34 : decode cX8_digit 34 = .ok (.ireturn, 1) := by decide +kernel
theorem dX8_digit_35 : decode cX8_digit 35 = .ok (.aload_n 0, 1) := by decide +kernel
theorem dX8_digit_36 : decode cX8_digit 36 = .ok (.dup, 1) := by decide +kernel
theorem dX8_digit_37 : decode cX8_digit 37 = .ok (.getfield 199, 3) := by decide +kernel
theorem dX8_digit_40 : decode cX8_digit 40 = .ok (.iconst 1, 1) := by decide +kernel
theorem dX8_digit_41 : decode cX8_digit 41 = .ok (.iadd, 1) := by decide +kernel
theorem dX8_digit_42 : decode cX8_digit 42 = .ok (.putfield 199, 3) := by decide +kernel
theorem dX8_digit_45 : decode cX8_digit 45 = .ok (.aload_n 0, 1) := by decide +kernel
theorem dX8_digit_46 : decode cX8_digit 46 = .ok (.getfield 22, 3) := by decide +kernel
theorem dX8_digit_49 : decode cX8_digit 49 = .ok (.aload_n 0, 1) := by decide +kernel
theorem dX8_digit_50 : decode cX8_digit 50 = .ok (.getfield 199, 3) := by decide +kernel
theorem dX8_digit_53 : decode cX8_digit 53 = .ok (.iconst 1, 1) := by decide +kernel
theorem dX8_digit_54 : decode cX8_digit 54 = .ok (.isub, 1) := by decide +kernel
theorem dX8_digit_55 : decode cX8_digit 55 = .ok (.caload, 1) := by decide +kernel
theorem dX8_digit_56 : decode cX8_digit 56 = .ok (.bipush 48, 2) := by decide +kernel
theorem dX8_digit_58 : decode cX8_digit 58 = .ok (.isub, 1) := by decide +kernel
theorem dX8_digit_59 : decode cX8_digit 59 = .ok (.ireturn, 1) := by decide +kernel
theorem dX8_readsJob_0 : decode cX8_readsJob 0 = .ok (.iconst 3, 1) := by decide +kernel
theorem dX8_readsJob_1 : decode cX8_readsJob 1 = .ok (.aload_n 0, 1) := by decide +kernel
theorem dX8_readsJob_2 : decode cX8_readsJob 2 = .ok (.getfield 202, 3) := by decide +kernel
theorem dX8_readsJob_5 : decode cX8_readsJob 5 = .ok (.imul, 1) := by decide +kernel
theorem dX8_readsJob_6 : decode cX8_readsJob 6 = .ok (.istore_n 1, 1) := by decide +kernel
theorem dX8_readsJob_7 : decode cX8_readsJob 7 = .ok (.aload_n 0, 1) := by decide +kernel
theorem dX8_readsJob_8 : decode cX8_readsJob 8 = .ok (.getfield 26, 3) := by decide +kernel
theorem dX8_readsJob_11 : decode cX8_readsJob 11 = .ok (.iload_n 1, 1) := by decide +kernel
theorem dX8_readsJob_12 : decode cX8_readsJob 12 = .ok (.aload_n 0, 1) := by decide +kernel
theorem dX8_readsJob_13 : decode cX8_readsJob 13 = .ok (.bipush 114, 2) := by decide +kernel
theorem dX8_readsJob_15 : decode cX8_readsJob 15 = .ok (.invokevirtual 205, 3) := by decide +kernel
theorem dX8_readsJob_18 : decode cX8_readsJob 18 = .ok (.ifCond .eq 7, 3) := by decide +kernel
theorem dX8_readsJob_21 : decode cX8_readsJob 21 = .ok (.iconst 0, 1) := by decide +kernel
theorem dX8_readsJob_22 : decode cX8_readsJob 22 = .ok (.goto 31, 3) := by decide +kernel
theorem dX8_readsJob_25 : decode cX8_readsJob 25 = .ok (.aload_n 0, 1) := by decide +kernel
theorem dX8_readsJob_26 : decode cX8_readsJob 26 = .ok (.bipush 98, 2) := by decide +kernel
theorem dX8_readsJob_28 : decode cX8_readsJob 28 = .ok (.invokevirtual 205, 3) := by decide +kernel
theorem dX8_readsJob_31 : decode cX8_readsJob 31 = .ok (.ifCond .eq 7, 3) := by decide +kernel
theorem dX8_readsJob_34 : decode cX8_readsJob 34 = .ok (.iconst 1, 1) := by decide +kernel
theorem dX8_readsJob_35 : decode cX8_readsJob 35 = .ok (.goto 18, 3) := by decide +kernel
theorem dX8_readsJob_38 : decode cX8_readsJob 38 = .ok (.aload_n 0, 1) := by decide +kernel
theorem dX8_readsJob_39 : decode cX8_readsJob 39 = .ok (.bipush 115, 2) := by decide +kernel
theorem dX8_readsJob_41 : decode cX8_readsJob 41 = .ok (.invokevirtual 205, 3) := by decide +kernel
theorem dX8_readsJob_44 : decode cX8_readsJob 44 = .ok (.ifCond .eq 7, 3) := by decide +kernel
theorem dX8_readsJob_47 : decode cX8_readsJob 47 = .ok (.iconst 2, 1) := by decide +kernel
theorem dX8_readsJob_48 : decode cX8_readsJob 48 = .ok (.goto 5, 3) := by decide +kernel
theorem dX8_readsJob_51 : decode cX8_readsJob 51 = .ok (.ldc 49, 2) := by decide +kernel
theorem dX8_readsJob_53 : decode cX8_readsJob 53 = .ok (.iastore, 1) := by decide +kernel
theorem dX8_readsJob_54 : decode cX8_readsJob 54 = .ok (.aload_n 0, 1) := by decide +kernel
theorem dX8_readsJob_55 : decode cX8_readsJob 55 = .ok (.getfield 26, 3) := by decide +kernel
theorem dX8_readsJob_58 : decode cX8_readsJob 58 = .ok (.iload_n 1, 1) := by decide +kernel
theorem dX8_readsJob_59 : decode cX8_readsJob 59 = .ok (.iaload, 1) := by decide +kernel
theorem dX8_readsJob_60 : decode cX8_readsJob 60 = .ok (.ldc 49, 2) := by decide +kernel
theorem dX8_readsJob_62 : decode cX8_readsJob 62 = .ok (.if_icmp .ne 5, 3) := by decide +kernel
theorem dX8_readsJob_65 : decode cX8_readsJob 65 = .ok (.iconst 0, 1) := by decide +kernel
theorem dX8_readsJob_66 : decode cX8_readsJob 66 = .ok (.ireturn, 1) := by decide +kernel
theorem dX8_readsJob_67 : decode cX8_readsJob 67 = .ok (.aload_n 0, 1) := by decide +kernel
theorem dX8_readsJob_68 : decode cX8_readsJob 68 = .ok (.dup, 1) := by decide +kernel
theorem dX8_readsJob_69 : decode cX8_readsJob 69 = .ok (.getfield 199, 3) := by decide +kernel
theorem dX8_readsJob_72 : decode cX8_readsJob 72 = .ok (.iconst 1, 1) := by decide +kernel
theorem dX8_readsJob_73 : decode cX8_readsJob 73 = .ok (.iadd, 1) := by decide +kernel
theorem dX8_readsJob_74 : decode cX8_readsJob 74 = .ok (.putfield 199, 3) := by decide +kernel
theorem dX8_readsJob_77 : decode cX8_readsJob 77 = .ok (.aload_n 0, 1) := by decide +kernel
theorem dX8_readsJob_78 : decode cX8_readsJob 78 = .ok (.getfield 26, 3) := by decide +kernel
theorem dX8_readsJob_81 : decode cX8_readsJob 81 = .ok (.iload_n 1, 1) := by decide +kernel
theorem dX8_readsJob_82 : decode cX8_readsJob 82 = .ok (.iconst 1, 1) := by decide +kernel
theorem dX8_readsJob_83 : decode cX8_readsJob 83 = .ok (.iadd, 1) := by decide +kernel
theorem dX8_readsJob_84 : decode cX8_readsJob 84 = .ok (.aload_n 0, 1) := by decide +kernel
theorem dX8_readsJob_85 : decode cX8_readsJob 85 = .ok (.bipush 7, 2) := by decide +kernel
theorem dX8_readsJob_87 : decode cX8_readsJob 87 = .ok (.invokevirtual 209, 3) := by decide +kernel
theorem dX8_readsJob_90 : decode cX8_readsJob 90 = .ok (.iastore, 1) := by decide +kernel
theorem dX8_readsJob_91 : decode cX8_readsJob 91 = .ok (.aload_n 0, 1) := by decide +kernel
theorem dX8_readsJob_92 : decode cX8_readsJob 92 = .ok (.getfield 26, 3) := by decide +kernel
theorem dX8_readsJob_95 : decode cX8_readsJob 95 = .ok (.iload_n 1, 1) := by decide +kernel
theorem dX8_readsJob_96 : decode cX8_readsJob 96 = .ok (.iconst 1, 1) := by decide +kernel
theorem dX8_readsJob_97 : decode cX8_readsJob 97 = .ok (.iadd, 1) := by decide +kernel
theorem dX8_readsJob_98 : decode cX8_readsJob 98 = .ok (.iaload, 1) := by decide +kernel
theorem dX8_readsJob_99 : decode cX8_readsJob 99 = .ok (.ldc 49, 2) := by decide +kernel
theorem dX8_readsJob_101 : decode cX8_readsJob 101 = .ok (.if_icmp .ne 5, 3) := by decide +kernel
theorem dX8_readsJob_104 : decode cX8_readsJob 104 = .ok (.iconst 0, 1) := by decide +kernel
theorem dX8_readsJob_105 : decode cX8_readsJob 105 = .ok (.ireturn, 1) := by decide +kernel
theorem dX8_readsJob_106 : decode cX8_readsJob 106 = .ok (.aload_n 0, 1) := by decide +kernel
theorem dX8_readsJob_107 : decode cX8_readsJob 107 = .ok (.getfield 26, 3) := by decide +kernel
theorem dX8_readsJob_110 : decode cX8_readsJob 110 = .ok (.iload_n 1, 1) := by decide +kernel
theorem dX8_readsJob_111 : decode cX8_readsJob 111 = .ok (.iconst 2, 1) := by decide +kernel
theorem dX8_readsJob_112 : decode cX8_readsJob 112 = .ok (.iadd, 1) := by decide +kernel
theorem dX8_readsJob_113 : decode cX8_readsJob 113 = .ok (.iconst 5, 1) := by decide +kernel
theorem dX8_readsJob_114 : decode cX8_readsJob 114 = .ok (.iastore, 1) := by decide +kernel
theorem dX8_readsJob_115 : decode cX8_readsJob 115 = .ok (.aload_n 0, 1) := by decide +kernel
theorem dX8_readsJob_116 : decode cX8_readsJob 116 = .ok (.bipush 33, 2) := by decide +kernel
theorem dX8_readsJob_118 : decode cX8_readsJob 118 = .ok (.invokevirtual 205, 3) := by decide +kernel
theorem dX8_readsJob_121 : decode cX8_readsJob 121 = .ok (.ifCond .eq 42, 3) := by decide +kernel
theorem dX8_readsJob_124 : decode cX8_readsJob 124 = .ok (.aload_n 0, 1) := by decide +kernel
theorem dX8_readsJob_125 : decode cX8_readsJob 125 = .ok (.dup, 1) := by decide +kernel
theorem dX8_readsJob_126 : decode cX8_readsJob 126 = .ok (.getfield 199, 3) := by decide +kernel
theorem dX8_readsJob_129 : decode cX8_readsJob 129 = .ok (.iconst 1, 1) := by decide +kernel
theorem dX8_readsJob_130 : decode cX8_readsJob 130 = .ok (.iadd, 1) := by decide +kernel
theorem dX8_readsJob_131 : decode cX8_readsJob 131 = .ok (.putfield 199, 3) := by decide +kernel
theorem dX8_readsJob_134 : decode cX8_readsJob 134 = .ok (.aload_n 0, 1) := by decide +kernel
theorem dX8_readsJob_135 : decode cX8_readsJob 135 = .ok (.getfield 26, 3) := by decide +kernel
theorem dX8_readsJob_138 : decode cX8_readsJob 138 = .ok (.iload_n 1, 1) := by decide +kernel
theorem dX8_readsJob_139 : decode cX8_readsJob 139 = .ok (.iconst 2, 1) := by decide +kernel
theorem dX8_readsJob_140 : decode cX8_readsJob 140 = .ok (.iadd, 1) := by decide +kernel
theorem dX8_readsJob_141 : decode cX8_readsJob 141 = .ok (.aload_n 0, 1) := by decide +kernel
theorem dX8_readsJob_142 : decode cX8_readsJob 142 = .ok (.bipush 9, 2) := by decide +kernel
theorem dX8_readsJob_144 : decode cX8_readsJob 144 = .ok (.invokevirtual 209, 3) := by decide +kernel
theorem dX8_readsJob_147 : decode cX8_readsJob 147 = .ok (.iastore, 1) := by decide +kernel
theorem dX8_readsJob_148 : decode cX8_readsJob 148 = .ok (.aload_n 0, 1) := by decide +kernel
theorem dX8_readsJob_149 : decode cX8_readsJob 149 = .ok (.getfield 26, 3) := by decide +kernel
theorem dX8_readsJob_152 : decode cX8_readsJob 152 = .ok (.iload_n 1, 1) := by decide +kernel
theorem dX8_readsJob_153 : decode cX8_readsJob 153 = .ok (.iconst 2, 1) := by decide +kernel
theorem dX8_readsJob_154 : decode cX8_readsJob 154 = .ok (.iadd, 1) := by decide +kernel
theorem dX8_readsJob_155 : decode cX8_readsJob 155 = .ok (.iaload, 1) := by decide +kernel
theorem dX8_readsJob_156 : decode cX8_readsJob 156 = .ok (.ldc 49, 2) := by decide +kernel
theorem dX8_readsJob_158 : decode cX8_readsJob 158 = .ok (.if_icmp .ne 5, 3) := by decide +kernel
theorem dX8_readsJob_161 : decode cX8_readsJob 161 = .ok (.iconst 0, 1) := by decide +kernel
theorem dX8_readsJob_162 : decode cX8_readsJob 162 = .ok (.ireturn, 1) := by decide +kernel
theorem dX8_readsJob_163 : decode cX8_readsJob 163 = .ok (.aload_n 0, 1) := by decide +kernel
theorem dX8_readsJob_164 : decode cX8_readsJob 164 = .ok (.dup, 1) := by decide +kernel
theorem dX8_readsJob_165 : decode cX8_readsJob 165 = .ok (.getfield 202, 3) := by decide +kernel
theorem dX8_readsJob_168 : decode cX8_readsJob 168 = .ok (.iconst 1, 1) := by decide +kernel
theorem dX8_readsJob_169 : decode cX8_readsJob 169 = .ok (.iadd, 1) := by decide +kernel
theorem dX8_readsJob_170 : decode cX8_readsJob 170 = .ok (.putfield 202, 3) := by decide +kernel
theorem dX8_readsJob_173 : decode cX8_readsJob 173 = .ok (.aload_n 0, 1) := by decide +kernel
theorem dX8_readsJob_174 : decode cX8_readsJob 174 = .ok (.getfield 199, 3) := by decide +kernel
theorem dX8_readsJob_177 : decode cX8_readsJob 177 = .ok (.aload_n 0, 1) := by decide +kernel
theorem dX8_readsJob_178 : decode cX8_readsJob 178 = .ok (.getfield 196, 3) := by decide +kernel
theorem dX8_readsJob_181 : decode cX8_readsJob 181 = .ok (.if_icmp .eq 17, 3) := by decide +kernel
theorem dX8_readsJob_184 : decode cX8_readsJob 184 = .ok (.aload_n 0, 1) := by decide +kernel
theorem dX8_readsJob_185 : decode cX8_readsJob 185 = .ok (.getfield 22, 3) := by decide +kernel
theorem dX8_readsJob_188 : decode cX8_readsJob 188 = .ok (.aload_n 0, 1) := by decide +kernel
theorem dX8_readsJob_189 : decode cX8_readsJob 189 = .ok (.getfield 199, 3) := by decide +kernel
theorem dX8_readsJob_192 : decode cX8_readsJob 192 = .ok (.caload, 1) := by decide +kernel
theorem dX8_readsJob_193 : decode cX8_readsJob 193 = .ok (.bipush 44, 2) := by decide +kernel
theorem dX8_readsJob_195 : decode cX8_readsJob 195 = .ok (.if_icmp .ne 7, 3) := by decide +kernel
theorem dX8_readsJob_198 : decode cX8_readsJob 198 = .ok (.iconst 1, 1) := by decide +kernel
theorem dX8_readsJob_199 : decode cX8_readsJob 199 = .ok (.goto 4, 3) := by decide +kernel
theorem dX8_readsJob_202 : decode cX8_readsJob 202 = .ok (.iconst 0, 1) := by decide +kernel
theorem dX8_readsJob_203 : decode cX8_readsJob 203 = .ok (.ireturn, 1) := by decide +kernel
theorem dX8_readJobs_0 : decode cX8_readJobs 0 = .ok (.aload_n 0, 1) := by decide +kernel
theorem dX8_readJobs_1 : decode cX8_readJobs 1 = .ok (.iconst 0, 1) := by decide +kernel
theorem dX8_readJobs_2 : decode cX8_readJobs 2 = .ok (.putfield 199, 3) := by decide +kernel
theorem dX8_readJobs_5 : decode cX8_readJobs 5 = .ok (.aload_n 0, 1) := by decide +kernel
theorem dX8_readJobs_6 : decode cX8_readJobs 6 = .ok (.iconst 0, 1) := by decide +kernel
theorem dX8_readJobs_7 : decode cX8_readJobs 7 = .ok (.putfield 202, 3) := by decide +kernel
theorem dX8_readJobs_10 : decode cX8_readJobs 10 = .ok (.iconst 1, 1) := by decide +kernel
theorem dX8_readJobs_11 : decode cX8_readJobs 11 = .ok (.istore_n 1, 1) := by decide +kernel
theorem dX8_readJobs_12 : decode cX8_readJobs 12 = .ok (.iload_n 1, 1) := by decide +kernel
theorem dX8_readJobs_13 : decode cX8_readJobs 13 = .ok (.ifCond .eq 56, 3) := by decide +kernel
theorem dX8_readJobs_16 : decode cX8_readJobs 16 = .ok (.aload_n 0, 1) := by decide +kernel
theorem dX8_readJobs_17 : decode cX8_readJobs 17 = .ok (.invokevirtual 212, 3) := by decide +kernel
theorem dX8_readJobs_20 : decode cX8_readJobs 20 = .ok (.ifCond .ne 11, 3) := by decide +kernel
theorem dX8_readJobs_23 : decode cX8_readJobs 23 = .ok (.bipush (-100), 2) := by decide +kernel
theorem dX8_readJobs_25 : decode cX8_readJobs 25 = .ok (.aload_n 0, 1) := by decide +kernel
theorem dX8_readJobs_26 : decode cX8_readJobs 26 = .ok (.getfield 199, 3) := by decide +kernel
theorem dX8_readJobs_29 : decode cX8_readJobs 29 = .ok (.isub, 1) := by decide +kernel
theorem dX8_readJobs_30 : decode cX8_readJobs 30 = .ok (.ireturn, 1) := by decide +kernel
theorem dX8_readJobs_31 : decode cX8_readJobs 31 = .ok (.aload_n 0, 1) := by decide +kernel
theorem dX8_readJobs_32 : decode cX8_readJobs 32 = .ok (.getfield 199, 3) := by decide +kernel
theorem dX8_readJobs_35 : decode cX8_readJobs 35 = .ok (.aload_n 0, 1) := by decide +kernel
theorem dX8_readJobs_36 : decode cX8_readJobs 36 = .ok (.getfield 196, 3) := by decide +kernel
theorem dX8_readJobs_39 : decode cX8_readJobs 39 = .ok (.if_icmp .ge 7, 3) := by decide +kernel
theorem dX8_readJobs_42 : decode cX8_readJobs 42 = .ok (.iconst 1, 1) := by decide +kernel
theorem dX8_readJobs_43 : decode cX8_readJobs 43 = .ok (.goto 4, 3) := by decide +kernel
theorem dX8_readJobs_46 : decode cX8_readJobs 46 = .ok (.iconst 0, 1) := by decide +kernel
theorem dX8_readJobs_47 : decode cX8_readJobs 47 = .ok (.istore_n 1, 1) := by decide +kernel
theorem dX8_readJobs_48 : decode cX8_readJobs 48 = .ok (.aload_n 0, 1) := by decide +kernel
theorem dX8_readJobs_49 : decode cX8_readJobs 49 = .ok (.dup, 1) := by decide +kernel
theorem dX8_readJobs_50 : decode cX8_readJobs 50 = .ok (.getfield 199, 3) := by decide +kernel
theorem dX8_readJobs_53 : decode cX8_readJobs 53 = .ok (.iload_n 1, 1) := by decide +kernel
theorem dX8_readJobs_54 : decode cX8_readJobs 54 = .ok (.ifCond .eq 7, 3) := by decide +kernel
theorem dX8_readJobs_57 : decode cX8_readJobs 57 = .ok (.iconst 1, 1) := by decide +kernel
theorem dX8_readJobs_58 : decode cX8_readJobs 58 = .ok (.goto 4, 3) := by decide +kernel
theorem dX8_readJobs_61 : decode cX8_readJobs 61 = .ok (.iconst 0, 1) := by decide +kernel
theorem dX8_readJobs_62 : decode cX8_readJobs 62 = .ok (.iadd, 1) := by decide +kernel
theorem dX8_readJobs_63 : decode cX8_readJobs 63 = .ok (.putfield 199, 3) := by decide +kernel
theorem dX8_readJobs_66 : decode cX8_readJobs 66 = .ok (.goto (-54), 3) := by decide +kernel
theorem dX8_readJobs_69 : decode cX8_readJobs 69 = .ok (.iconst 0, 1) := by decide +kernel
theorem dX8_readJobs_70 : decode cX8_readJobs 70 = .ok (.istore_n 2, 1) := by decide +kernel
theorem dX8_readJobs_71 : decode cX8_readJobs 71 = .ok (.iload_n 2, 1) := by decide +kernel
theorem dX8_readJobs_72 : decode cX8_readJobs 72 = .ok (.aload_n 0, 1) := by decide +kernel
theorem dX8_readJobs_73 : decode cX8_readJobs 73 = .ok (.getfield 202, 3) := by decide +kernel
theorem dX8_readJobs_76 : decode cX8_readJobs 76 = .ok (.if_icmp .ge 29, 3) := by decide +kernel
theorem dX8_readJobs_79 : decode cX8_readJobs 79 = .ok (.aload_n 0, 1) := by decide +kernel
theorem dX8_readJobs_80 : decode cX8_readJobs 80 = .ok (.aload_n 0, 1) := by decide +kernel
theorem dX8_readJobs_81 : decode cX8_readJobs 81 = .ok (.getfield 26, 3) := by decide +kernel
theorem dX8_readJobs_84 : decode cX8_readJobs 84 = .ok (.iconst 3, 1) := by decide +kernel
theorem dX8_readJobs_85 : decode cX8_readJobs 85 = .ok (.iload_n 2, 1) := by decide +kernel
theorem dX8_readJobs_86 : decode cX8_readJobs 86 = .ok (.imul, 1) := by decide +kernel
theorem dX8_readJobs_87 : decode cX8_readJobs 87 = .ok (.iconst 1, 1) := by decide +kernel
theorem dX8_readJobs_88 : decode cX8_readJobs 88 = .ok (.iadd, 1) := by decide +kernel
theorem dX8_readJobs_89 : decode cX8_readJobs 89 = .ok (.iaload, 1) := by decide +kernel
theorem dX8_readJobs_90 : decode cX8_readJobs 90 = .ok (.invokevirtual 140, 3) := by decide +kernel
theorem dX8_readJobs_93 : decode cX8_readJobs 93 = .ok (.ifCond .eq 6, 3) := by decide +kernel
theorem dX8_readJobs_96 : decode cX8_readJobs 96 = .ok (.ldc 144, 2) := by decide +kernel
theorem dX8_readJobs_98 : decode cX8_readJobs 98 = .ok (.ireturn, 1) := by decide +kernel
theorem dX8_readJobs_99 : decode cX8_readJobs 99 = .ok (.iinc 2 1, 3) := by decide +kernel
theorem dX8_readJobs_102 : decode cX8_readJobs 102 = .ok (.goto (-31), 3) := by decide +kernel
theorem dX8_readJobs_105 : decode cX8_readJobs 105 = .ok (.aload_n 0, 1) := by decide +kernel
theorem dX8_readJobs_106 : decode cX8_readJobs 106 = .ok (.getfield 7, 3) := by decide +kernel
theorem dX8_readJobs_109 : decode cX8_readJobs 109 = .ok (.iconst 4, 1) := by decide +kernel
theorem dX8_readJobs_110 : decode cX8_readJobs 110 = .ok (.iaload, 1) := by decide +kernel
theorem dX8_readJobs_111 : decode cX8_readJobs 111 = .ok (.aload_n 0, 1) := by decide +kernel
theorem dX8_readJobs_112 : decode cX8_readJobs 112 = .ok (.getfield 202, 3) := by decide +kernel
theorem dX8_readJobs_115 : decode cX8_readJobs 115 = .ok (.iadd, 1) := by decide +kernel
theorem dX8_readJobs_116 : decode cX8_readJobs 116 = .ok (.bipush 20, 2) := by decide +kernel
theorem dX8_readJobs_118 : decode cX8_readJobs 118 = .ok (.if_icmp .le 9, 3) := by decide +kernel
theorem dX8_readJobs_121 : decode cX8_readJobs 121 = .ok (.aload_n 0, 1) := by decide +kernel
theorem dX8_readJobs_122 : decode cX8_readJobs 122 = .ok (.iconst 1, 1) := by decide +kernel
theorem dX8_readJobs_123 : decode cX8_readJobs 123 = .ok (.invokevirtual 51, 3) := by decide +kernel
theorem dX8_readJobs_126 : decode cX8_readJobs 126 = .ok (.ireturn, 1) := by decide +kernel
theorem dX8_readJobs_127 : decode cX8_readJobs 127 = .ok (.aload_n 0, 1) := by decide +kernel
theorem dX8_readJobs_128 : decode cX8_readJobs 128 = .ok (.invokevirtual 58, 3) := by decide +kernel
theorem dX8_readJobs_131 : decode cX8_readJobs 131 = .ok (.iconst 0, 1) := by decide +kernel
theorem dX8_readJobs_132 : decode cX8_readJobs 132 = .ok (.istore_n 2, 1) := by decide +kernel
theorem dX8_readJobs_133 : decode cX8_readJobs 133 = .ok (.iload_n 2, 1) := by decide +kernel
theorem dX8_readJobs_134 : decode cX8_readJobs 134 = .ok (.aload_n 0, 1) := by decide +kernel
theorem dX8_readJobs_135 : decode cX8_readJobs 135 = .ok (.getfield 202, 3) := by decide +kernel
theorem dX8_readJobs_138 : decode cX8_readJobs 138 = .ok (.if_icmp .ge 41, 3) := by decide +kernel
theorem dX8_readJobs_141 : decode cX8_readJobs 141 = .ok (.aload_n 0, 1) := by decide +kernel
theorem dX8_readJobs_142 : decode cX8_readJobs 142 = .ok (.aload_n 0, 1) := by decide +kernel
theorem dX8_readJobs_143 : decode cX8_readJobs 143 = .ok (.getfield 26, 3) := by decide +kernel
theorem dX8_readJobs_146 : decode cX8_readJobs 146 = .ok (.iconst 3, 1) := by decide +kernel
theorem dX8_readJobs_147 : decode cX8_readJobs 147 = .ok (.iload_n 2, 1) := by decide +kernel
theorem dX8_readJobs_148 : decode cX8_readJobs 148 = .ok (.imul, 1) := by decide +kernel
theorem dX8_readJobs_149 : decode cX8_readJobs 149 = .ok (.iaload, 1) := by decide +kernel
theorem dX8_readJobs_150 : decode cX8_readJobs 150 = .ok (.aload_n 0, 1) := by decide +kernel
theorem dX8_readJobs_151 : decode cX8_readJobs 151 = .ok (.getfield 26, 3) := by decide +kernel
theorem dX8_readJobs_154 : decode cX8_readJobs 154 = .ok (.iconst 3, 1) := by decide +kernel
theorem dX8_readJobs_155 : decode cX8_readJobs 155 = .ok (.iload_n 2, 1) := by decide +kernel
theorem dX8_readJobs_156 : decode cX8_readJobs 156 = .ok (.imul, 1) := by decide +kernel
theorem dX8_readJobs_157 : decode cX8_readJobs 157 = .ok (.iconst 1, 1) := by decide +kernel
theorem dX8_readJobs_158 : decode cX8_readJobs 158 = .ok (.iadd, 1) := by decide +kernel
theorem dX8_readJobs_159 : decode cX8_readJobs 159 = .ok (.iaload, 1) := by decide +kernel
theorem dX8_readJobs_160 : decode cX8_readJobs 160 = .ok (.aload_n 0, 1) := by decide +kernel
theorem dX8_readJobs_161 : decode cX8_readJobs 161 = .ok (.getfield 26, 3) := by decide +kernel
theorem dX8_readJobs_164 : decode cX8_readJobs 164 = .ok (.iconst 3, 1) := by decide +kernel
theorem dX8_readJobs_165 : decode cX8_readJobs 165 = .ok (.iload_n 2, 1) := by decide +kernel
theorem dX8_readJobs_166 : decode cX8_readJobs 166 = .ok (.imul, 1) := by decide +kernel
theorem dX8_readJobs_167 : decode cX8_readJobs 167 = .ok (.iconst 2, 1) := by decide +kernel
theorem dX8_readJobs_168 : decode cX8_readJobs 168 = .ok (.iadd, 1) := by decide +kernel
theorem dX8_readJobs_169 : decode cX8_readJobs 169 = .ok (.iaload, 1) := by decide +kernel
theorem dX8_readJobs_170 : decode cX8_readJobs 170 = .ok (.invokevirtual 151, 3) := by decide +kernel
theorem dX8_readJobs_173 : decode cX8_readJobs 173 = .ok (.iinc 2 1, 3) := by decide +kernel
theorem dX8_readJobs_176 : decode cX8_readJobs 176 = .ok (.goto (-43), 3) := by decide +kernel
theorem dX8_readJobs_179 : decode cX8_readJobs 179 = .ok (.aload_n 0, 1) := by decide +kernel
theorem dX8_readJobs_180 : decode cX8_readJobs 180 = .ok (.getfield 202, 3) := by decide +kernel
theorem dX8_readJobs_183 : decode cX8_readJobs 183 = .ok (.ireturn, 1) := by decide +kernel
theorem dX8_undo_0 : decode cX8_undo 0 = .ok (.aload_n 0, 1) := by decide +kernel
theorem dX8_undo_1 : decode cX8_undo 1 = .ok (.getfield 29, 3) := by decide +kernel
theorem dX8_undo_4 : decode cX8_undo 4 = .ok (.ifCond .ne 6, 3) := by decide +kernel
theorem dX8_undo_7 : decode cX8_undo 7 = .ok (.ldc 49, 2) := by decide +kernel
theorem dX8_undo_9 : decode cX8_undo 9 = .ok (.ireturn, 1) := by decide +kernel
theorem dX8_undo_10 : decode cX8_undo 10 = .ok (.aload_n 0, 1) := by decide +kernel
theorem dX8_undo_11 : decode cX8_undo 11 = .ok (.dup, 1) := by decide +kernel
theorem dX8_undo_12 : decode cX8_undo 12 = .ok (.getfield 29, 3) := by decide +kernel
theorem dX8_undo_15 : decode cX8_undo 15 = .ok (.iconst 1, 1) := by decide +kernel
theorem dX8_undo_16 : decode cX8_undo 16 = .ok (.isub, 1) := by decide +kernel
theorem dX8_undo_17 : decode cX8_undo 17 = .ok (.putfield 29, 3) := by decide +kernel
theorem dX8_undo_20 : decode cX8_undo 20 = .ok (.iconst 0, 1) := by decide +kernel
theorem dX8_undo_21 : decode cX8_undo 21 = .ok (.istore_n 1, 1) := by decide +kernel
theorem dX8_undo_22 : decode cX8_undo 22 = .ok (.iload_n 1, 1) := by decide +kernel
theorem dX8_undo_23 : decode cX8_undo 23 = .ok (.sipush 298, 3) := by decide +kernel
theorem dX8_undo_26 : decode cX8_undo 26 = .ok (.if_icmp .ge 30, 3) := by decide +kernel
theorem dX8_undo_29 : decode cX8_undo 29 = .ok (.aload_n 0, 1) := by decide +kernel
theorem dX8_undo_30 : decode cX8_undo 30 = .ok (.getfield 7, 3) := by decide +kernel
theorem dX8_undo_33 : decode cX8_undo 33 = .ok (.iload_n 1, 1) := by decide +kernel
theorem dX8_undo_34 : decode cX8_undo 34 = .ok (.aload_n 0, 1) := by decide +kernel
theorem dX8_undo_35 : decode cX8_undo 35 = .ok (.getfield 13, 3) := by decide +kernel
theorem dX8_undo_38 : decode cX8_undo 38 = .ok (.sipush 298, 3) := by decide +kernel
theorem dX8_undo_41 : decode cX8_undo 41 = .ok (.aload_n 0, 1) := by decide +kernel
theorem dX8_undo_42 : decode cX8_undo 42 = .ok (.getfield 29, 3) := by decide +kernel
theorem dX8_undo_45 : decode cX8_undo 45 = .ok (.imul, 1) := by decide +kernel
theorem dX8_undo_46 : decode cX8_undo 46 = .ok (.iload_n 1, 1) := by decide +kernel
theorem dX8_undo_47 : decode cX8_undo 47 = .ok (.iadd, 1) := by decide +kernel
theorem dX8_undo_48 : decode cX8_undo 48 = .ok (.iaload, 1) := by decide +kernel
theorem dX8_undo_49 : decode cX8_undo 49 = .ok (.iastore, 1) := by decide +kernel
theorem dX8_undo_50 : decode cX8_undo 50 = .ok (.iinc 1 1, 3) := by decide +kernel
theorem dX8_undo_53 : decode cX8_undo 53 = .ok (.goto (-31), 3) := by decide +kernel
theorem dX8_undo_56 : decode cX8_undo 56 = .ok (.aload_n 0, 1) := by decide +kernel
theorem dX8_undo_57 : decode cX8_undo 57 = .ok (.getfield 29, 3) := by decide +kernel
theorem dX8_undo_60 : decode cX8_undo 60 = .ok (.ireturn, 1) := by decide +kernel
theorem dX8_keep_0 : decode cX8_keep 0 = .ok (.iconst 0, 1) := by decide +kernel
theorem dX8_keep_1 : decode cX8_keep 1 = .ok (.istore_n 1, 1) := by decide +kernel
theorem dX8_keep_2 : decode cX8_keep 2 = .ok (.iload_n 1, 1) := by decide +kernel
theorem dX8_keep_3 : decode cX8_keep 3 = .ok (.sipush 298, 3) := by decide +kernel
theorem dX8_keep_6 : decode cX8_keep 6 = .ok (.if_icmp .ge 21, 3) := by decide +kernel
theorem dX8_keep_9 : decode cX8_keep 9 = .ok (.aload_n 0, 1) := by decide +kernel
theorem dX8_keep_10 : decode cX8_keep 10 = .ok (.getfield 16, 3) := by decide +kernel
theorem dX8_keep_13 : decode cX8_keep 13 = .ok (.iload_n 1, 1) := by decide +kernel
theorem dX8_keep_14 : decode cX8_keep 14 = .ok (.aload_n 0, 1) := by decide +kernel
theorem dX8_keep_15 : decode cX8_keep 15 = .ok (.getfield 7, 3) := by decide +kernel
theorem dX8_keep_18 : decode cX8_keep 18 = .ok (.iload_n 1, 1) := by decide +kernel
theorem dX8_keep_19 : decode cX8_keep 19 = .ok (.iaload, 1) := by decide +kernel
theorem dX8_keep_20 : decode cX8_keep 20 = .ok (.iastore, 1) := by decide +kernel
theorem dX8_keep_21 : decode cX8_keep 21 = .ok (.iinc 1 1, 3) := by decide +kernel
theorem dX8_keep_24 : decode cX8_keep 24 = .ok (.goto (-22), 3) := by decide +kernel
theorem dX8_keep_27 : decode cX8_keep 27 = .ok (.aload_n 0, 1) := by decide +kernel
theorem dX8_keep_28 : decode cX8_keep 28 = .ok (.iconst 1, 1) := by decide +kernel
theorem dX8_keep_29 : decode cX8_keep 29 = .ok (.putfield 215, 3) := by decide +kernel
theorem dX8_keep_32 : decode cX8_keep 32 = .ok (.aload_n 0, 1) := by decide +kernel
theorem dX8_keep_33 : decode cX8_keep 33 = .ok (.getfield 7, 3) := by decide +kernel
theorem dX8_keep_36 : decode cX8_keep 36 = .ok (.iconst 0, 1) := by decide +kernel
theorem dX8_keep_37 : decode cX8_keep 37 = .ok (.iaload, 1) := by decide +kernel
theorem dX8_keep_38 : decode cX8_keep 38 = .ok (.ireturn, 1) := by decide +kernel
theorem dX8_restore_0 : decode cX8_restore 0 = .ok (.aload_n 0, 1) := by decide +kernel
theorem dX8_restore_1 : decode cX8_restore 1 = .ok (.getfield 215, 3) := by decide +kernel
theorem dX8_restore_4 : decode cX8_restore 4 = .ok (.ifCond .ne 6, 3) := by decide +kernel
theorem dX8_restore_7 : decode cX8_restore 7 = .ok (.ldc 49, 2) := by decide +kernel
theorem dX8_restore_9 : decode cX8_restore 9 = .ok (.ireturn, 1) := by decide +kernel
theorem dX8_restore_10 : decode cX8_restore 10 = .ok (.aload_n 0, 1) := by decide +kernel
theorem dX8_restore_11 : decode cX8_restore 11 = .ok (.invokevirtual 58, 3) := by decide +kernel
theorem dX8_restore_14 : decode cX8_restore 14 = .ok (.iconst 0, 1) := by decide +kernel
theorem dX8_restore_15 : decode cX8_restore 15 = .ok (.istore_n 1, 1) := by decide +kernel
theorem dX8_restore_16 : decode cX8_restore 16 = .ok (.iload_n 1, 1) := by decide +kernel
theorem dX8_restore_17 : decode cX8_restore 17 = .ok (.sipush 298, 3) := by decide +kernel
theorem dX8_restore_20 : decode cX8_restore 20 = .ok (.if_icmp .ge 21, 3) := by decide +kernel
theorem dX8_restore_23 : decode cX8_restore 23 = .ok (.aload_n 0, 1) := by decide +kernel
theorem dX8_restore_24 : decode cX8_restore 24 = .ok (.getfield 7, 3) := by decide +kernel
theorem dX8_restore_27 : decode cX8_restore 27 = .ok (.iload_n 1, 1) := by decide +kernel
theorem dX8_restore_28 : decode cX8_restore 28 = .ok (.aload_n 0, 1) := by decide +kernel
theorem dX8_restore_29 : decode cX8_restore 29 = .ok (.getfield 16, 3) := by decide +kernel
theorem dX8_restore_32 : decode cX8_restore 32 = .ok (.iload_n 1, 1) := by decide +kernel
theorem dX8_restore_33 : decode cX8_restore 33 = .ok (.iaload, 1) := by decide +kernel
theorem dX8_restore_34 : decode cX8_restore 34 = .ok (.iastore, 1) := by decide +kernel
theorem dX8_restore_35 : decode cX8_restore 35 = .ok (.iinc 1 1, 3) := by decide +kernel
theorem dX8_restore_38 : decode cX8_restore 38 = .ok (.goto (-22), 3) := by decide +kernel
theorem dX8_restore_41 : decode cX8_restore 41 = .ok (.aload_n 0, 1) := by decide +kernel
theorem dX8_restore_42 : decode cX8_restore 42 = .ok (.getfield 7, 3) := by decide +kernel
theorem dX8_restore_45 : decode cX8_restore 45 = .ok (.iconst 0, 1) := by decide +kernel
theorem dX8_restore_46 : decode cX8_restore 46 = .ok (.iaload, 1) := by decide +kernel
theorem dX8_restore_47 : decode cX8_restore 47 = .ok (.ireturn, 1) := by decide +kernel
theorem dX8_rosette_0 : decode cX8_rosette 0 = .ok (.aload_n 0, 1) := by decide +kernel
theorem dX8_rosette_1 : decode cX8_rosette 1 = .ok (.iload_n 1, 1) := by decide +kernel
theorem dX8_rosette_2 : decode cX8_rosette 2 = .ok (.invokevirtual 140, 3) := by decide +kernel
theorem dX8_rosette_5 : decode cX8_rosette 5 = .ok (.ifCond .eq 6, 3) := by decide +kernel
theorem dX8_rosette_8 : decode cX8_rosette 8 = .ok (.ldc 144, 2) := by decide +kernel
theorem dX8_rosette_10 : decode cX8_rosette 10 = .ok (.ireturn, 1) := by decide +kernel
theorem dX8_rosette_11 : decode cX8_rosette 11 = .ok (.iload_n 2, 1) := by decide +kernel
theorem dX8_rosette_12 : decode cX8_rosette 12 = .ok (.iconst 0, 1) := by decide +kernel
theorem dX8_rosette_13 : decode cX8_rosette 13 = .ok (.bipush 8, 2) := by decide +kernel
theorem dX8_rosette_15 : decode cX8_rosette 15 = .ok (.invokestatic 37, 3) := by decide +kernel
theorem dX8_rosette_18 : decode cX8_rosette 18 = .ok (.ifCond .eq 10, 3) := by decide +kernel
theorem dX8_rosette_21 : decode cX8_rosette 21 = .ok (.aload_n 0, 1) := by decide +kernel
theorem dX8_rosette_22 : decode cX8_rosette 22 = .ok (.iload_n 1, 1) := by decide +kernel
theorem dX8_rosette_23 : decode cX8_rosette 23 = .ok (.iload_n 2, 1) := by decide +kernel
theorem dX8_rosette_24 : decode cX8_rosette 24 = .ok (.invokevirtual 41, 3) := by decide +kernel
theorem dX8_rosette_27 : decode cX8_rosette 27 = .ok (.ireturn, 1) := by decide +kernel
theorem dX8_rosette_28 : decode cX8_rosette 28 = .ok (.iload_n 2, 1) := by decide +kernel
theorem dX8_rosette_29 : decode cX8_rosette 29 = .ok (.bipush 9, 2) := by decide +kernel
theorem dX8_rosette_31 : decode cX8_rosette 31 = .ok (.if_icmp .ne 11, 3) := by decide +kernel
theorem dX8_rosette_34 : decode cX8_rosette 34 = .ok (.aload_n 0, 1) := by decide +kernel
theorem dX8_rosette_35 : decode cX8_rosette 35 = .ok (.iload_n 1, 1) := by decide +kernel
theorem dX8_rosette_36 : decode cX8_rosette 36 = .ok (.invokevirtual 78, 3) := by decide +kernel
theorem dX8_rosette_39 : decode cX8_rosette 39 = .ok (.goto 33, 3) := by decide +kernel
theorem dX8_rosette_42 : decode cX8_rosette 42 = .ok (.iload_n 2, 1) := by decide +kernel
theorem dX8_rosette_43 : decode cX8_rosette 43 = .ok (.bipush 10, 2) := by decide +kernel
theorem dX8_rosette_45 : decode cX8_rosette 45 = .ok (.if_icmp .ne 11, 3) := by decide +kernel
theorem dX8_rosette_48 : decode cX8_rosette 48 = .ok (.aload_n 0, 1) := by decide +kernel
theorem dX8_rosette_49 : decode cX8_rosette 49 = .ok (.iload_n 1, 1) := by decide +kernel
theorem dX8_rosette_50 : decode cX8_rosette 50 = .ok (.invokevirtual 161, 3) := by decide +kernel
theorem dX8_rosette_53 : decode cX8_rosette 53 = .ok (.goto 19, 3) := by decide +kernel
theorem dX8_rosette_56 : decode cX8_rosette 56 = .ok (.iload_n 2, 1) := by decide +kernel
theorem dX8_rosette_57 : decode cX8_rosette 57 = .ok (.bipush 11, 2) := by decide +kernel
theorem dX8_rosette_59 : decode cX8_rosette 59 = .ok (.if_icmp .ne 11, 3) := by decide +kernel
theorem dX8_rosette_62 : decode cX8_rosette 62 = .ok (.aload_n 0, 1) := by decide +kernel
theorem dX8_rosette_63 : decode cX8_rosette 63 = .ok (.iload_n 1, 1) := by decide +kernel
theorem dX8_rosette_64 : decode cX8_rosette 64 = .ok (.invokevirtual 154, 3) := by decide +kernel
theorem dX8_rosette_67 : decode cX8_rosette 67 = .ok (.goto 5, 3) := by decide +kernel
theorem dX8_rosette_70 : decode cX8_rosette 70 = .ok (.ldc 50, 2) := by decide +kernel
theorem dX8_rosette_72 : decode cX8_rosette 72 = .ok (.ireturn, 1) := by decide +kernel
theorem dX8_gauge_0 : decode cX8_gauge 0 = .ok (.aload_n 0, 1) := by decide +kernel
theorem dX8_gauge_1 : decode cX8_gauge 1 = .ok (.iload_n 1, 1) := by decide +kernel
theorem dX8_gauge_2 : decode cX8_gauge 2 = .ok (.invokevirtual 140, 3) := by decide +kernel
theorem dX8_gauge_5 : decode cX8_gauge 5 = .ok (.ifCond .ne 12, 3) := by decide +kernel
theorem dX8_gauge_8 : decode cX8_gauge 8 = .ok (.iload_n 2, 1) := by decide +kernel
theorem dX8_gauge_9 : decode cX8_gauge 9 = .ok (.iconst 0, 1) := by decide +kernel
theorem dX8_gauge_10 : decode cX8_gauge 10 = .ok (.iconst 2, 1) := by decide +kernel
theorem dX8_gauge_11 : decode cX8_gauge 11 = .ok (.invokestatic 37, 3) := by decide +kernel
theorem dX8_gauge_14 : decode cX8_gauge 14 = .ok (.ifCond .ne 6, 3) := by decide +kernel
theorem dX8_gauge_17 : decode cX8_gauge 17 = .ok (.ldc 144, 2) := by decide +kernel
theorem dX8_gauge_19 : decode cX8_gauge 19 = .ok (.ireturn, 1) := by decide +kernel
theorem dX8_gauge_20 : decode cX8_gauge 20 = .ok (.iload_n 3, 1) := by decide +kernel
theorem dX8_gauge_21 : decode cX8_gauge 21 = .ok (.tableswitch 113 0 7 #[47, 55, 62, 76, 83, 91, 99, 106], 47) := by decide +kernel
theorem dX8_gauge_68 : decode cX8_gauge 68 = .ok (.aload_n 0, 1) := by decide +kernel
theorem dX8_gauge_69 : decode cX8_gauge 69 = .ok (.iload_n 1, 1) := by decide +kernel
theorem dX8_gauge_70 : decode cX8_gauge 70 = .ok (.iload_n 2, 1) := by decide +kernel
theorem dX8_gauge_71 : decode cX8_gauge 71 = .ok (.iconst 0, 1) := by decide +kernel
theorem dX8_gauge_72 : decode cX8_gauge 72 = .ok (.invokevirtual 68, 3) := by decide +kernel
theorem dX8_gauge_75 : decode cX8_gauge 75 = .ok (.ireturn, 1) := by decide +kernel
theorem dX8_gauge_76 : decode cX8_gauge 76 = .ok (.aload_n 0, 1) := by decide +kernel
theorem dX8_gauge_77 : decode cX8_gauge 77 = .ok (.iload_n 1, 1) := by decide +kernel
theorem dX8_gauge_78 : decode cX8_gauge 78 = .ok (.iload_n 2, 1) := by decide +kernel
theorem dX8_gauge_79 : decode cX8_gauge 79 = .ok (.invokevirtual 75, 3) := by decide +kernel
theorem dX8_gauge_82 : decode cX8_gauge 82 = .ok (.ireturn, 1) := by decide +kernel
theorem dX8_gauge_83 : decode cX8_gauge 83 = .ok (.aload_n 0, 1) := by decide +kernel
theorem dX8_gauge_84 : decode cX8_gauge 84 = .ok (.iload_n 1, 1) := by decide +kernel
theorem dX8_gauge_85 : decode cX8_gauge 85 = .ok (.iload_n 2, 1) := by decide +kernel
theorem dX8_gauge_86 : decode cX8_gauge 86 = .ok (.aload_n 0, 1) := by decide +kernel
theorem dX8_gauge_87 : decode cX8_gauge 87 = .ok (.iload_n 1, 1) := by decide +kernel
theorem dX8_gauge_88 : decode cX8_gauge 88 = .ok (.bipush 8, 2) := by decide +kernel
theorem dX8_gauge_90 : decode cX8_gauge 90 = .ok (.invokevirtual 41, 3) := by decide +kernel
theorem dX8_gauge_93 : decode cX8_gauge 93 = .ok (.invokevirtual 81, 3) := by decide +kernel
theorem dX8_gauge_96 : decode cX8_gauge 96 = .ok (.ireturn, 1) := by decide +kernel
theorem dX8_gauge_97 : decode cX8_gauge 97 = .ok (.aload_n 0, 1) := by decide +kernel
theorem dX8_gauge_98 : decode cX8_gauge 98 = .ok (.iload_n 1, 1) := by decide +kernel
theorem dX8_gauge_99 : decode cX8_gauge 99 = .ok (.iload_n 2, 1) := by decide +kernel
theorem dX8_gauge_100 : decode cX8_gauge 100 = .ok (.invokevirtual 90, 3) := by decide +kernel
theorem dX8_gauge_103 : decode cX8_gauge 103 = .ok (.ireturn, 1) := by decide +kernel
theorem dX8_gauge_104 : decode cX8_gauge 104 = .ok (.aload_n 0, 1) := by decide +kernel
theorem dX8_gauge_105 : decode cX8_gauge 105 = .ok (.iload_n 1, 1) := by decide +kernel
theorem dX8_gauge_106 : decode cX8_gauge 106 = .ok (.iload_n 2, 1) := by decide +kernel
theorem dX8_gauge_107 : decode cX8_gauge 107 = .ok (.iconst 1, 1) := by decide +kernel
theorem dX8_gauge_108 : decode cX8_gauge 108 = .ok (.invokevirtual 68, 3) := by decide +kernel
theorem dX8_gauge_111 : decode cX8_gauge 111 = .ok (.ireturn, 1) := by decide +kernel
theorem dX8_gauge_112 : decode cX8_gauge 112 = .ok (.aload_n 0, 1) := by decide +kernel
theorem dX8_gauge_113 : decode cX8_gauge 113 = .ok (.iload_n 1, 1) := by decide +kernel
theorem dX8_gauge_114 : decode cX8_gauge 114 = .ok (.iload_n 2, 1) := by decide +kernel
theorem dX8_gauge_115 : decode cX8_gauge 115 = .ok (.iconst 2, 1) := by decide +kernel
theorem dX8_gauge_116 : decode cX8_gauge 116 = .ok (.invokevirtual 68, 3) := by decide +kernel
theorem dX8_gauge_119 : decode cX8_gauge 119 = .ok (.ireturn, 1) := by decide +kernel
theorem dX8_gauge_120 : decode cX8_gauge 120 = .ok (.aload_n 0, 1) := by decide +kernel
theorem dX8_gauge_121 : decode cX8_gauge 121 = .ok (.iload_n 1, 1) := by decide +kernel
theorem dX8_gauge_122 : decode cX8_gauge 122 = .ok (.iload_n 2, 1) := by decide +kernel
theorem dX8_gauge_123 : decode cX8_gauge 123 = .ok (.invokevirtual 124, 3) := by decide +kernel
theorem dX8_gauge_126 : decode cX8_gauge 126 = .ok (.ireturn, 1) := by decide +kernel
theorem dX8_gauge_127 : decode cX8_gauge 127 = .ok (.aload_n 0, 1) := by decide +kernel
theorem dX8_gauge_128 : decode cX8_gauge 128 = .ok (.iload_n 1, 1) := by decide +kernel
theorem dX8_gauge_129 : decode cX8_gauge 129 = .ok (.iload_n 2, 1) := by decide +kernel
theorem dX8_gauge_130 : decode cX8_gauge 130 = .ok (.invokevirtual 167, 3) := by decide +kernel
theorem dX8_gauge_133 : decode cX8_gauge 133 = .ok (.ireturn, 1) := by decide +kernel
theorem dX8_gauge_134 : decode cX8_gauge 134 = .ok (.ldc 50, 2) := by decide +kernel
theorem dX8_gauge_136 : decode cX8_gauge 136 = .ok (.ireturn, 1) := by decide +kernel
theorem dX8_principal_0 : decode cX8_principal 0 = .ok (.aload_n 0, 1) := by decide +kernel
theorem dX8_principal_1 : decode cX8_principal 1 = .ok (.iload_n 1, 1) := by decide +kernel
theorem dX8_principal_2 : decode cX8_principal 2 = .ok (.invokevirtual 140, 3) := by decide +kernel
theorem dX8_principal_5 : decode cX8_principal 5 = .ok (.ifCond .eq 6, 3) := by decide +kernel
theorem dX8_principal_8 : decode cX8_principal 8 = .ok (.ldc 144, 2) := by decide +kernel
theorem dX8_principal_10 : decode cX8_principal 10 = .ok (.ireturn, 1) := by decide +kernel
theorem dX8_principal_11 : decode cX8_principal 11 = .ok (.aload_n 0, 1) := by decide +kernel
theorem dX8_principal_12 : decode cX8_principal 12 = .ok (.iload_n 1, 1) := by decide +kernel
theorem dX8_principal_13 : decode cX8_principal 13 = .ok (.invokevirtual 170, 3) := by decide +kernel
theorem dX8_principal_16 : decode cX8_principal 16 = .ok (.iload_n 2, 1) := by decide +kernel
theorem dX8_principal_17 : decode cX8_principal 17 = .ok (.tableswitch 104 0 7 #[47, 58, 69, 74, 80, 86, 92, 98], 47) := by decide +kernel
theorem dX8_principal_64 : decode cX8_principal 64 = .ok (.aload_n 0, 1) := by decide +kernel
theorem dX8_principal_65 : decode cX8_principal 65 = .ok (.invokevirtual 173, 3) := by decide +kernel
theorem dX8_principal_68 : decode cX8_principal 68 = .ok (.aload_n 0, 1) := by decide +kernel
theorem dX8_principal_69 : decode cX8_principal 69 = .ok (.invokevirtual 177, 3) := by decide +kernel
theorem dX8_principal_72 : decode cX8_principal 72 = .ok (.ladd, 1) := by decide +kernel
theorem dX8_principal_73 : decode cX8_principal 73 = .ok (.l2i, 1) := by decide +kernel
theorem dX8_principal_74 : decode cX8_principal 74 = .ok (.ireturn, 1) := by decide +kernel
theorem dX8_principal_75 : decode cX8_principal 75 = .ok (.aload_n 0, 1) := by decide +kernel
theorem dX8_principal_76 : decode cX8_principal 76 = .ok (.invokevirtual 173, 3) := by decide +kernel
theorem dX8_principal_79 : decode cX8_principal 79 = .ok (.aload_n 0, 1) := by decide +kernel
theorem dX8_principal_80 : decode cX8_principal 80 = .ok (.invokevirtual 177, 3) := by decide +kernel
theorem dX8_principal_83 : decode cX8_principal 83 = .ok (.lsub, 1) := by decide +kernel
theorem dX8_principal_84 : decode cX8_principal 84 = .ok (.l2i, 1) := by decide +kernel
theorem dX8_principal_85 : decode cX8_principal 85 = .ok (.ireturn, 1) := by decide +kernel
theorem dX8_principal_86 : decode cX8_principal 86 = .ok (.aload_n 0, 1) := by decide +kernel
theorem dX8_principal_87 : decode cX8_principal 87 = .ok (.getfield 133, 3) := by decide +kernel
theorem dX8_principal_90 : decode cX8_principal 90 = .ok (.ireturn, 1) := by decide +kernel
theorem dX8_principal_91 : decode cX8_principal 91 = .ok (.aload_n 0, 1) := by decide +kernel
theorem dX8_principal_92 : decode cX8_principal 92 = .ok (.invokevirtual 177, 3) := by decide +kernel
theorem dX8_principal_95 : decode cX8_principal 95 = .ok (.l2i, 1) := by decide +kernel
theorem dX8_principal_96 : decode cX8_principal 96 = .ok (.ireturn, 1) := by decide +kernel
theorem dX8_principal_97 : decode cX8_principal 97 = .ok (.aload_n 0, 1) := by decide +kernel
theorem dX8_principal_98 : decode cX8_principal 98 = .ok (.getfield 104, 3) := by decide +kernel
theorem dX8_principal_101 : decode cX8_principal 101 = .ok (.l2i, 1) := by decide +kernel
theorem dX8_principal_102 : decode cX8_principal 102 = .ok (.ireturn, 1) := by decide +kernel
theorem dX8_principal_103 : decode cX8_principal 103 = .ok (.aload_n 0, 1) := by decide +kernel
theorem dX8_principal_104 : decode cX8_principal 104 = .ok (.getfield 108, 3) := by decide +kernel
theorem dX8_principal_107 : decode cX8_principal 107 = .ok (.l2i, 1) := by decide +kernel
theorem dX8_principal_108 : decode cX8_principal 108 = .ok (.ireturn, 1) := by decide +kernel
theorem dX8_principal_109 : decode cX8_principal 109 = .ok (.aload_n 0, 1) := by decide +kernel
theorem dX8_principal_110 : decode cX8_principal 110 = .ok (.getfield 111, 3) := by decide +kernel
theorem dX8_principal_113 : decode cX8_principal 113 = .ok (.l2i, 1) := by decide +kernel
theorem dX8_principal_114 : decode cX8_principal 114 = .ok (.ireturn, 1) := by decide +kernel
theorem dX8_principal_115 : decode cX8_principal 115 = .ok (.aload_n 0, 1) := by decide +kernel
theorem dX8_principal_116 : decode cX8_principal 116 = .ok (.invokevirtual 173, 3) := by decide +kernel
theorem dX8_principal_119 : decode cX8_principal 119 = .ok (.l2i, 1) := by decide +kernel
theorem dX8_principal_120 : decode cX8_principal 120 = .ok (.ireturn, 1) := by decide +kernel
theorem dX8_principal_121 : decode cX8_principal 121 = .ok (.ldc 50, 2) := by decide +kernel
theorem dX8_principal_123 : decode cX8_principal 123 = .ok (.ireturn, 1) := by decide +kernel
theorem dX8_pull_0 : decode cX8_pull 0 = .ok (.aload_n 0, 1) := by decide +kernel
theorem dX8_pull_1 : decode cX8_pull 1 = .ok (.iload_n 1, 1) := by decide +kernel
theorem dX8_pull_2 : decode cX8_pull 2 = .ok (.invokevirtual 140, 3) := by decide +kernel
theorem dX8_pull_5 : decode cX8_pull 5 = .ok (.ifCond .eq 6, 3) := by decide +kernel
theorem dX8_pull_8 : decode cX8_pull 8 = .ok (.ldc 144, 2) := by decide +kernel
theorem dX8_pull_10 : decode cX8_pull 10 = .ok (.ireturn, 1) := by decide +kernel
theorem dX8_pull_11 : decode cX8_pull 11 = .ok (.iload_n 2, 1) := by decide +kernel
theorem dX8_pull_12 : decode cX8_pull 12 = .ok (.iconst 0, 1) := by decide +kernel
theorem dX8_pull_13 : decode cX8_pull 13 = .ok (.bipush 23, 2) := by decide +kernel
theorem dX8_pull_15 : decode cX8_pull 15 = .ok (.invokestatic 37, 3) := by decide +kernel
theorem dX8_pull_18 : decode cX8_pull 18 = .ok (.ifCond .ne 6, 3) := by decide +kernel
theorem dX8_pull_21 : decode cX8_pull 21 = .ok (.ldc 50, 2) := by decide +kernel
theorem dX8_pull_23 : decode cX8_pull 23 = .ok (.ireturn, 1) := by decide +kernel
theorem dX8_pull_24 : decode cX8_pull 24 = .ok (.aload_n 0, 1) := by decide +kernel
theorem dX8_pull_25 : decode cX8_pull 25 = .ok (.iload_n 1, 1) := by decide +kernel
theorem dX8_pull_26 : decode cX8_pull 26 = .ok (.invokevirtual 170, 3) := by decide +kernel
theorem dX8_pull_29 : decode cX8_pull 29 = .ok (.aload_n 0, 1) := by decide +kernel
theorem dX8_pull_30 : decode cX8_pull 30 = .ok (.iload_n 2, 1) := by decide +kernel
theorem dX8_pull_31 : decode cX8_pull 31 = .ok (.invokevirtual 136, 3) := by decide +kernel
theorem dX8_pull_34 : decode cX8_pull 34 = .ok (.ldc2_w 122, 3) := by decide +kernel
theorem dX8_pull_37 : decode cX8_pull 37 = .ok (.ldiv, 1) := by decide +kernel
theorem dX8_pull_38 : decode cX8_pull 38 = .ok (.l2i, 1) := by decide +kernel
theorem dX8_pull_39 : decode cX8_pull 39 = .ok (.ireturn, 1) := by decide +kernel
theorem dX8_job_0 : decode cX8_job 0 = .ok (.iload_n 1, 1) := by decide +kernel
theorem dX8_job_1 : decode cX8_job 1 = .ok (.ifCond .lt 12, 3) := by decide +kernel
theorem dX8_job_4 : decode cX8_job 4 = .ok (.iload_n 2, 1) := by decide +kernel
theorem dX8_job_5 : decode cX8_job 5 = .ok (.iconst 0, 1) := by decide +kernel
theorem dX8_job_6 : decode cX8_job 6 = .ok (.iconst 4, 1) := by decide +kernel
theorem dX8_job_7 : decode cX8_job 7 = .ok (.invokestatic 37, 3) := by decide +kernel
theorem dX8_job_10 : decode cX8_job 10 = .ok (.ifCond .ne 6, 3) := by decide +kernel
theorem dX8_job_13 : decode cX8_job 13 = .ok (.ldc 50, 2) := by decide +kernel
theorem dX8_job_15 : decode cX8_job 15 = .ok (.ireturn, 1) := by decide +kernel
theorem dX8_job_16 : decode cX8_job 16 = .ok (.iload_n 1, 1) := by decide +kernel
theorem dX8_job_17 : decode cX8_job 17 = .ok (.aload_n 0, 1) := by decide +kernel
theorem dX8_job_18 : decode cX8_job 18 = .ok (.getfield 7, 3) := by decide +kernel
theorem dX8_job_21 : decode cX8_job 21 = .ok (.iconst 4, 1) := by decide +kernel
theorem dX8_job_22 : decode cX8_job 22 = .ok (.iaload, 1) := by decide +kernel
theorem dX8_job_23 : decode cX8_job 23 = .ok (.if_icmp .lt 6, 3) := by decide +kernel
theorem dX8_job_26 : decode cX8_job 26 = .ok (.ldc 49, 2) := by decide +kernel
theorem dX8_job_28 : decode cX8_job 28 = .ok (.ireturn, 1) := by decide +kernel
theorem dX8_job_29 : decode cX8_job 29 = .ok (.iconst 0, 1) := by decide +kernel
theorem dX8_job_30 : decode cX8_job 30 = .ok (.istore_n 3, 1) := by decide +kernel
theorem dX8_job_31 : decode cX8_job 31 = .ok (.aload_n 0, 1) := by decide +kernel
theorem dX8_job_32 : decode cX8_job 32 = .ok (.getfield 7, 3) := by decide +kernel
theorem dX8_job_35 : decode cX8_job 35 = .ok (.iconst 1, 1) := by decide +kernel
theorem dX8_job_36 : decode cX8_job 36 = .ok (.iaload, 1) := by decide +kernel
theorem dX8_job_37 : decode cX8_job 37 = .ok (.istore 4, 2) := by decide +kernel
theorem dX8_job_39 : decode cX8_job 39 = .ok (.iconst 0, 1) := by decide +kernel
theorem dX8_job_40 : decode cX8_job 40 = .ok (.istore 5, 2) := by decide +kernel
theorem dX8_job_42 : decode cX8_job 42 = .ok (.ldc 49, 2) := by decide +kernel
theorem dX8_job_44 : decode cX8_job 44 = .ok (.istore 6, 2) := by decide +kernel
theorem dX8_job_46 : decode cX8_job 46 = .ok (.iconst 0, 1) := by decide +kernel
theorem dX8_job_47 : decode cX8_job 47 = .ok (.istore 7, 2) := by decide +kernel
theorem dX8_job_49 : decode cX8_job 49 = .ok (.iload 7, 2) := by decide +kernel
theorem dX8_job_51 : decode cX8_job 51 = .ok (.iload_n 1, 1) := by decide +kernel
theorem dX8_job_52 : decode cX8_job 52 = .ok (.if_icmp .gt 52, 3) := by decide +kernel
theorem dX8_job_55 : decode cX8_job 55 = .ok (.aload_n 0, 1) := by decide +kernel
theorem dX8_job_56 : decode cX8_job 56 = .ok (.iload_n 3, 1) := by decide +kernel
theorem dX8_job_57 : decode cX8_job 57 = .ok (.iload 4, 2) := by decide +kernel
theorem dX8_job_59 : decode cX8_job 59 = .ok (.invokevirtual 180, 3) := by decide +kernel
theorem dX8_job_62 : decode cX8_job 62 = .ok (.istore 6, 2) := by decide +kernel
theorem dX8_job_64 : decode cX8_job 64 = .ok (.iload_n 3, 1) := by decide +kernel
theorem dX8_job_65 : decode cX8_job 65 = .ok (.iconst 1, 1) := by decide +kernel
theorem dX8_job_66 : decode cX8_job 66 = .ok (.iload 6, 2) := by decide +kernel
theorem dX8_job_68 : decode cX8_job 68 = .ok (.ishl, 1) := by decide +kernel
theorem dX8_job_69 : decode cX8_job 69 = .ok (.ior, 1) := by decide +kernel
theorem dX8_job_70 : decode cX8_job 70 = .ok (.istore_n 3, 1) := by decide +kernel
theorem dX8_job_71 : decode cX8_job 71 = .ok (.iload 5, 2) := by decide +kernel
theorem dX8_job_73 : decode cX8_job 73 = .ok (.aload_n 0, 1) := by decide +kernel
theorem dX8_job_74 : decode cX8_job 74 = .ok (.iload 6, 2) := by decide +kernel
theorem dX8_job_76 : decode cX8_job 76 = .ok (.iload 4, 2) := by decide +kernel
theorem dX8_job_78 : decode cX8_job 78 = .ok (.invokevirtual 148, 3) := by decide +kernel
theorem dX8_job_81 : decode cX8_job 81 = .ok (.iadd, 1) := by decide +kernel
theorem dX8_job_82 : decode cX8_job 82 = .ok (.istore 5, 2) := by decide +kernel
theorem dX8_job_84 : decode cX8_job 84 = .ok (.aload_n 0, 1) := by decide +kernel
theorem dX8_job_85 : decode cX8_job 85 = .ok (.aload_n 0, 1) := by decide +kernel
theorem dX8_job_86 : decode cX8_job 86 = .ok (.iload 6, 2) := by decide +kernel
theorem dX8_job_88 : decode cX8_job 88 = .ok (.iconst 2, 1) := by decide +kernel
theorem dX8_job_89 : decode cX8_job 89 = .ok (.invokevirtual 145, 3) := by decide +kernel
theorem dX8_job_92 : decode cX8_job 92 = .ok (.iconst 0, 1) := by decide +kernel
theorem dX8_job_93 : decode cX8_job 93 = .ok (.invokevirtual 41, 3) := by decide +kernel
theorem dX8_job_96 : decode cX8_job 96 = .ok (.istore 4, 2) := by decide +kernel
theorem dX8_job_98 : decode cX8_job 98 = .ok (.iinc 7 1, 3) := by decide +kernel
theorem dX8_job_101 : decode cX8_job 101 = .ok (.goto (-52), 3) := by decide +kernel
theorem dX8_job_104 : decode cX8_job 104 = .ok (.iload_n 2, 1) := by decide +kernel
theorem dX8_job_105 : decode cX8_job 105 = .ok (.iconst 4, 1) := by decide +kernel
theorem dX8_job_106 : decode cX8_job 106 = .ok (.if_icmp .ne 8, 3) := by decide +kernel
theorem dX8_job_109 : decode cX8_job 109 = .ok (.iload 5, 2) := by decide +kernel
theorem dX8_job_111 : decode cX8_job 111 = .ok (.goto 10, 3) := by decide +kernel
theorem dX8_job_114 : decode cX8_job 114 = .ok (.aload_n 0, 1) := by decide +kernel
theorem dX8_job_115 : decode cX8_job 115 = .ok (.iload 6, 2) := by decide +kernel
theorem dX8_job_117 : decode cX8_job 117 = .ok (.iload_n 2, 1) := by decide +kernel
theorem dX8_job_118 : decode cX8_job 118 = .ok (.invokevirtual 145, 3) := by decide +kernel
theorem dX8_job_121 : decode cX8_job 121 = .ok (.ireturn, 1) := by decide +kernel
theorem dX8_record_0 : decode cX8_record 0 = .ok (.iload_n 1, 1) := by decide +kernel
theorem dX8_record_1 : decode cX8_record 1 = .ok (.ifCond .lt 12, 3) := by decide +kernel
theorem dX8_record_4 : decode cX8_record 4 = .ok (.iload_n 2, 1) := by decide +kernel
theorem dX8_record_5 : decode cX8_record 5 = .ok (.iconst 0, 1) := by decide +kernel
theorem dX8_record_6 : decode cX8_record 6 = .ok (.iconst 3, 1) := by decide +kernel
theorem dX8_record_7 : decode cX8_record 7 = .ok (.invokestatic 37, 3) := by decide +kernel
theorem dX8_record_10 : decode cX8_record 10 = .ok (.ifCond .ne 6, 3) := by decide +kernel
theorem dX8_record_13 : decode cX8_record 13 = .ok (.ldc 50, 2) := by decide +kernel
theorem dX8_record_15 : decode cX8_record 15 = .ok (.ireturn, 1) := by decide +kernel
theorem dX8_record_16 : decode cX8_record 16 = .ok (.iload_n 1, 1) := by decide +kernel
theorem dX8_record_17 : decode cX8_record 17 = .ok (.aload_n 0, 1) := by decide +kernel
theorem dX8_record_18 : decode cX8_record 18 = .ok (.getfield 7, 3) := by decide +kernel
theorem dX8_record_21 : decode cX8_record 21 = .ok (.bipush 8, 2) := by decide +kernel
theorem dX8_record_23 : decode cX8_record 23 = .ok (.iaload, 1) := by decide +kernel
theorem dX8_record_24 : decode cX8_record 24 = .ok (.if_icmp .ge 30, 3) := by decide +kernel
theorem dX8_record_27 : decode cX8_record 27 = .ok (.aload_n 0, 1) := by decide +kernel
theorem dX8_record_28 : decode cX8_record 28 = .ok (.getfield 7, 3) := by decide +kernel
theorem dX8_record_31 : decode cX8_record 31 = .ok (.sipush 250, 3) := by decide +kernel
theorem dX8_record_34 : decode cX8_record 34 = .ok (.iconst 4, 1) := by decide +kernel
theorem dX8_record_35 : decode cX8_record 35 = .ok (.aload_n 0, 1) := by decide +kernel
theorem dX8_record_36 : decode cX8_record 36 = .ok (.getfield 7, 3) := by decide +kernel
theorem dX8_record_39 : decode cX8_record 39 = .ok (.bipush 8, 2) := by decide +kernel
theorem dX8_record_41 : decode cX8_record 41 = .ok (.iaload, 1) := by decide +kernel
theorem dX8_record_42 : decode cX8_record 42 = .ok (.iconst 1, 1) := by decide +kernel
theorem dX8_record_43 : decode cX8_record 43 = .ok (.isub, 1) := by decide +kernel
theorem dX8_record_44 : decode cX8_record 44 = .ok (.iload_n 1, 1) := by decide +kernel
theorem dX8_record_45 : decode cX8_record 45 = .ok (.isub, 1) := by decide +kernel
theorem dX8_record_46 : decode cX8_record 46 = .ok (.imul, 1) := by decide +kernel
theorem dX8_record_47 : decode cX8_record 47 = .ok (.iadd, 1) := by decide +kernel
theorem dX8_record_48 : decode cX8_record 48 = .ok (.iload_n 2, 1) := by decide +kernel
theorem dX8_record_49 : decode cX8_record 49 = .ok (.iadd, 1) := by decide +kernel
theorem dX8_record_50 : decode cX8_record 50 = .ok (.iaload, 1) := by decide +kernel
theorem dX8_record_51 : decode cX8_record 51 = .ok (.goto 5, 3) := by decide +kernel
theorem dX8_record_54 : decode cX8_record 54 = .ok (.ldc 49, 2) := by decide +kernel
theorem dX8_record_56 : decode cX8_record 56 = .ok (.ireturn, 1) := by decide +kernel
theorem dX8_neighbour_0 : decode cX8_neighbour 0 = .ok (.iload_n 1, 1) := by decide +kernel
theorem dX8_neighbour_1 : decode cX8_neighbour 1 = .ok (.iconst 0, 1) := by decide +kernel
theorem dX8_neighbour_2 : decode cX8_neighbour 2 = .ok (.sipush 1000, 3) := by decide +kernel
theorem dX8_neighbour_5 : decode cX8_neighbour 5 = .ok (.invokestatic 37, 3) := by decide +kernel
theorem dX8_neighbour_8 : decode cX8_neighbour 8 = .ok (.ifCond .ne 6, 3) := by decide +kernel
theorem dX8_neighbour_11 : decode cX8_neighbour 11 = .ok (.ldc 50, 2) := by decide +kernel
theorem dX8_neighbour_13 : decode cX8_neighbour 13 = .ok (.ireturn, 1) := by decide +kernel
theorem dX8_neighbour_14 : decode cX8_neighbour 14 = .ok (.ldc 49, 2) := by decide +kernel
theorem dX8_neighbour_16 : decode cX8_neighbour 16 = .ok (.istore_n 3, 1) := by decide +kernel
theorem dX8_neighbour_17 : decode cX8_neighbour 17 = .ok (.iconst 0, 1) := by decide +kernel
theorem dX8_neighbour_18 : decode cX8_neighbour 18 = .ok (.istore 4, 2) := by decide +kernel
theorem dX8_neighbour_20 : decode cX8_neighbour 20 = .ok (.iload 4, 2) := by decide +kernel
theorem dX8_neighbour_22 : decode cX8_neighbour 22 = .ok (.aload_n 0, 1) := by decide +kernel
theorem dX8_neighbour_23 : decode cX8_neighbour 23 = .ok (.getfield 7, 3) := by decide +kernel
theorem dX8_neighbour_26 : decode cX8_neighbour 26 = .ok (.iconst 0, 1) := by decide +kernel
theorem dX8_neighbour_27 : decode cX8_neighbour 27 = .ok (.iaload, 1) := by decide +kernel
theorem dX8_neighbour_28 : decode cX8_neighbour 28 = .ok (.if_icmp .ge 66, 3) := by decide +kernel
theorem dX8_neighbour_31 : decode cX8_neighbour 31 = .ok (.iload_n 2, 1) := by decide +kernel
theorem dX8_neighbour_32 : decode cX8_neighbour 32 = .ok (.ifCond .eq 15, 3) := by decide +kernel
theorem dX8_neighbour_35 : decode cX8_neighbour 35 = .ok (.aload_n 0, 1) := by decide +kernel
theorem dX8_neighbour_36 : decode cX8_neighbour 36 = .ok (.iload 4, 2) := by decide +kernel
theorem dX8_neighbour_38 : decode cX8_neighbour 38 = .ok (.iconst 0, 1) := by decide +kernel
theorem dX8_neighbour_39 : decode cX8_neighbour 39 = .ok (.invokevirtual 41, 3) := by decide +kernel
theorem dX8_neighbour_42 : decode cX8_neighbour 42 = .ok (.iload_n 1, 1) := by decide +kernel
theorem dX8_neighbour_43 : decode cX8_neighbour 43 = .ok (.isub, 1) := by decide +kernel
theorem dX8_neighbour_44 : decode cX8_neighbour 44 = .ok (.goto 12, 3) := by decide +kernel
theorem dX8_neighbour_47 : decode cX8_neighbour 47 = .ok (.iload_n 1, 1) := by decide +kernel
theorem dX8_neighbour_48 : decode cX8_neighbour 48 = .ok (.aload_n 0, 1) := by decide +kernel
theorem dX8_neighbour_49 : decode cX8_neighbour 49 = .ok (.iload 4, 2) := by decide +kernel
theorem dX8_neighbour_51 : decode cX8_neighbour 51 = .ok (.iconst 0, 1) := by decide +kernel
theorem dX8_neighbour_52 : decode cX8_neighbour 52 = .ok (.invokevirtual 41, 3) := by decide +kernel
theorem dX8_neighbour_55 : decode cX8_neighbour 55 = .ok (.isub, 1) := by decide +kernel
theorem dX8_neighbour_56 : decode cX8_neighbour 56 = .ok (.istore 5, 2) := by decide +kernel
theorem dX8_neighbour_58 : decode cX8_neighbour 58 = .ok (.iload 5, 2) := by decide +kernel
theorem dX8_neighbour_60 : decode cX8_neighbour 60 = .ok (.ifCond .le 28, 3) := by decide +kernel
theorem dX8_neighbour_63 : decode cX8_neighbour 63 = .ok (.iload_n 3, 1) := by decide +kernel
theorem dX8_neighbour_64 : decode cX8_neighbour 64 = .ok (.ldc 49, 2) := by decide +kernel
theorem dX8_neighbour_66 : decode cX8_neighbour 66 = .ok (.if_icmp .eq 19, 3) := by decide +kernel
theorem dX8_neighbour_69 : decode cX8_neighbour 69 = .ok (.iload 5, 2) := by decide +kernel
theorem dX8_neighbour_71 : decode cX8_neighbour 71 = .ok (.aload_n 0, 1) := by decide +kernel
theorem dX8_neighbour_72 : decode cX8_neighbour 72 = .ok (.iload_n 3, 1) := by decide +kernel
theorem dX8_neighbour_73 : decode cX8_neighbour 73 = .ok (.iconst 0, 1) := by decide +kernel
theorem dX8_neighbour_74 : decode cX8_neighbour 74 = .ok (.invokevirtual 41, 3) := by decide +kernel
theorem dX8_neighbour_77 : decode cX8_neighbour 77 = .ok (.iload_n 1, 1) := by decide +kernel
theorem dX8_neighbour_78 : decode cX8_neighbour 78 = .ok (.isub, 1) := by decide +kernel
theorem dX8_neighbour_79 : decode cX8_neighbour 79 = .ok (.invokestatic 84, 3) := by decide +kernel
theorem dX8_neighbour_82 : decode cX8_neighbour 82 = .ok (.if_icmp .ge 6, 3) := by decide +kernel
theorem dX8_neighbour_85 : decode cX8_neighbour 85 = .ok (.iload 4, 2) := by decide +kernel
theorem dX8_neighbour_87 : decode cX8_neighbour 87 = .ok (.istore_n 3, 1) := by decide +kernel
theorem dX8_neighbour_88 : decode cX8_neighbour 88 = .ok (.iinc 4 1, 3) := by decide +kernel
theorem dX8_neighbour_91 : decode cX8_neighbour 91 = .ok (.goto (-71), 3) := by decide +kernel
theorem dX8_neighbour_94 : decode cX8_neighbour 94 = .ok (.iload_n 3, 1) := by decide +kernel
theorem dX8_neighbour_95 : decode cX8_neighbour 95 = .ok (.ireturn, 1) := by decide +kernel
theorem dX8_count_0 : decode cX8_count 0 = .ok (.iload_n 1, 1) := by decide +kernel
theorem dX8_count_1 : decode cX8_count 1 = .ok (.tableswitch 144 0 11 #[63, 70, 77, 84, 92, 100, 107, 114, 121, 129, 134, 139], 63) := by decide +kernel
theorem dX8_count_64 : decode cX8_count 64 = .ok (.aload_n 0, 1) := by decide +kernel
theorem dX8_count_65 : decode cX8_count 65 = .ok (.getfield 7, 3) := by decide +kernel
theorem dX8_count_68 : decode cX8_count 68 = .ok (.iconst 0, 1) := by decide +kernel
theorem dX8_count_69 : decode cX8_count 69 = .ok (.iaload, 1) := by decide +kernel
theorem dX8_count_70 : decode cX8_count 70 = .ok (.ireturn, 1) := by decide +kernel
theorem dX8_count_71 : decode cX8_count 71 = .ok (.aload_n 0, 1) := by decide +kernel
theorem dX8_count_72 : decode cX8_count 72 = .ok (.getfield 7, 3) := by decide +kernel
theorem dX8_count_75 : decode cX8_count 75 = .ok (.iconst 4, 1) := by decide +kernel
theorem dX8_count_76 : decode cX8_count 76 = .ok (.iaload, 1) := by decide +kernel
theorem dX8_count_77 : decode cX8_count 77 = .ok (.ireturn, 1) := by decide +kernel
theorem dX8_count_78 : decode cX8_count 78 = .ok (.aload_n 0, 1) := by decide +kernel
theorem dX8_count_79 : decode cX8_count 79 = .ok (.getfield 7, 3) := by decide +kernel
theorem dX8_count_82 : decode cX8_count 82 = .ok (.iconst 5, 1) := by decide +kernel
theorem dX8_count_83 : decode cX8_count 83 = .ok (.iaload, 1) := by decide +kernel
theorem dX8_count_84 : decode cX8_count 84 = .ok (.ireturn, 1) := by decide +kernel
theorem dX8_count_85 : decode cX8_count 85 = .ok (.aload_n 0, 1) := by decide +kernel
theorem dX8_count_86 : decode cX8_count 86 = .ok (.getfield 7, 3) := by decide +kernel
theorem dX8_count_89 : decode cX8_count 89 = .ok (.bipush 6, 2) := by decide +kernel
theorem dX8_count_91 : decode cX8_count 91 = .ok (.iaload, 1) := by decide +kernel
theorem dX8_count_92 : decode cX8_count 92 = .ok (.ireturn, 1) := by decide +kernel
theorem dX8_count_93 : decode cX8_count 93 = .ok (.aload_n 0, 1) := by decide +kernel
theorem dX8_count_94 : decode cX8_count 94 = .ok (.getfield 7, 3) := by decide +kernel
theorem dX8_count_97 : decode cX8_count 97 = .ok (.bipush 7, 2) := by decide +kernel
theorem dX8_count_99 : decode cX8_count 99 = .ok (.iaload, 1) := by decide +kernel
theorem dX8_count_100 : decode cX8_count 100 = .ok (.ireturn, 1) := by decide +kernel
theorem dX8_count_101 : decode cX8_count 101 = .ok (.aload_n 0, 1) := by decide +kernel
theorem dX8_count_102 : decode cX8_count 102 = .ok (.getfield 7, 3) := by decide +kernel
theorem dX8_count_105 : decode cX8_count 105 = .ok (.iconst 1, 1) := by decide +kernel
theorem dX8_count_106 : decode cX8_count 106 = .ok (.iaload, 1) := by decide +kernel
theorem dX8_count_107 : decode cX8_count 107 = .ok (.ireturn, 1) := by decide +kernel
theorem dX8_count_108 : decode cX8_count 108 = .ok (.aload_n 0, 1) := by decide +kernel
theorem dX8_count_109 : decode cX8_count 109 = .ok (.getfield 7, 3) := by decide +kernel
theorem dX8_count_112 : decode cX8_count 112 = .ok (.iconst 2, 1) := by decide +kernel
theorem dX8_count_113 : decode cX8_count 113 = .ok (.iaload, 1) := by decide +kernel
theorem dX8_count_114 : decode cX8_count 114 = .ok (.ireturn, 1) := by decide +kernel
theorem dX8_count_115 : decode cX8_count 115 = .ok (.aload_n 0, 1) := by decide +kernel
theorem dX8_count_116 : decode cX8_count 116 = .ok (.getfield 7, 3) := by decide +kernel
theorem dX8_count_119 : decode cX8_count 119 = .ok (.iconst 3, 1) := by decide +kernel
theorem dX8_count_120 : decode cX8_count 120 = .ok (.iaload, 1) := by decide +kernel
theorem dX8_count_121 : decode cX8_count 121 = .ok (.ireturn, 1) := by decide +kernel
theorem dX8_count_122 : decode cX8_count 122 = .ok (.aload_n 0, 1) := by decide +kernel
theorem dX8_count_123 : decode cX8_count 123 = .ok (.getfield 7, 3) := by decide +kernel
theorem dX8_count_126 : decode cX8_count 126 = .ok (.bipush 8, 2) := by decide +kernel
theorem dX8_count_128 : decode cX8_count 128 = .ok (.iaload, 1) := by decide +kernel
theorem dX8_count_129 : decode cX8_count 129 = .ok (.ireturn, 1) := by decide +kernel
theorem dX8_count_130 : decode cX8_count 130 = .ok (.aload_n 0, 1) := by decide +kernel
theorem dX8_count_131 : decode cX8_count 131 = .ok (.getfield 33, 3) := by decide +kernel
theorem dX8_count_134 : decode cX8_count 134 = .ok (.ireturn, 1) := by decide +kernel
theorem dX8_count_135 : decode cX8_count 135 = .ok (.aload_n 0, 1) := by decide +kernel
theorem dX8_count_136 : decode cX8_count 136 = .ok (.getfield 29, 3) := by decide +kernel
theorem dX8_count_139 : decode cX8_count 139 = .ok (.ireturn, 1) := by decide +kernel
theorem dX8_count_140 : decode cX8_count 140 = .ok (.aload_n 0, 1) := by decide +kernel
theorem dX8_count_141 : decode cX8_count 141 = .ok (.getfield 196, 3) := by decide +kernel
theorem dX8_count_144 : decode cX8_count 144 = .ok (.ireturn, 1) := by decide +kernel
theorem dX8_count_145 : decode cX8_count 145 = .ok (.ldc 50, 2) := by decide +kernel
theorem dX8_count_147 : decode cX8_count 147 = .ok (.ireturn, 1) := by decide +kernel
theorem dJ9_abs_0f7a4_0 : decode cJ9_abs_0f7a4 0 = .ok (.iload_n 0, 1) := by decide +kernel
theorem dJ9_abs_0f7a4_1 : decode cJ9_abs_0f7a4 1 = .ok (.ifCond .ge 8, 3) := by decide +kernel
theorem dJ9_abs_0f7a4_4 : decode cJ9_abs_0f7a4 4 = .ok (.iload_n 0, 1) := by decide +kernel
theorem dJ9_abs_0f7a4_5 : decode cJ9_abs_0f7a4 5 = .ok (.ineg, 1) := by decide +kernel
theorem dJ9_abs_0f7a4_6 : decode cJ9_abs_0f7a4 6 = .ok (.goto 4, 3) := by decide +kernel
theorem dJ9_abs_0f7a4_9 : decode cJ9_abs_0f7a4 9 = .ok (.iload_n 0, 1) := by decide +kernel
theorem dJ9_abs_0f7a4_10 : decode cJ9_abs_0f7a4 10 = .ok (.ireturn, 1) := by decide +kernel
theorem dJ9_max_7cf53_0 : decode cJ9_max_7cf53 0 = .ok (.iload_n 0, 1) := by decide +kernel
theorem dJ9_max_7cf53_1 : decode cJ9_max_7cf53 1 = .ok (.iload_n 1, 1) := by decide +kernel
theorem dJ9_max_7cf53_2 : decode cJ9_max_7cf53 2 = .ok (.if_icmp .lt 7, 3) := by decide +kernel
theorem dJ9_max_7cf53_5 : decode cJ9_max_7cf53 5 = .ok (.iload_n 0, 1) := by decide +kernel
theorem dJ9_max_7cf53_6 : decode cJ9_max_7cf53 6 = .ok (.goto 4, 3) := by decide +kernel
theorem dJ9_max_7cf53_9 : decode cJ9_max_7cf53 9 = .ok (.iload_n 1, 1) := by decide +kernel
theorem dJ9_max_7cf53_10 : decode cJ9_max_7cf53 10 = .ok (.ireturn, 1) := by decide +kernel
theorem dJ9_min_7cf53_0 : decode cJ9_min_7cf53 0 = .ok (.iload_n 0, 1) := by decide +kernel
theorem dJ9_min_7cf53_1 : decode cJ9_min_7cf53 1 = .ok (.iload_n 1, 1) := by decide +kernel
theorem dJ9_min_7cf53_2 : decode cJ9_min_7cf53 2 = .ok (.if_icmp .gt 7, 3) := by decide +kernel
theorem dJ9_min_7cf53_5 : decode cJ9_min_7cf53 5 = .ok (.iload_n 0, 1) := by decide +kernel
theorem dJ9_min_7cf53_6 : decode cJ9_min_7cf53 6 = .ok (.goto 4, 3) := by decide +kernel
theorem dJ9_min_7cf53_9 : decode cJ9_min_7cf53 9 = .ok (.iload_n 1, 1) := by decide +kernel
theorem dJ9_min_7cf53_10 : decode cJ9_min_7cf53 10 = .ok (.ireturn, 1) := by decide +kernel
theorem dL_law_0 : decode cL_law 0 = .ok (.new 7, 3) := by decide +kernel
theorem dL_law_3 : decode cL_law 3 = .ok (.dup, 1) := by decide +kernel
theorem dL_law_4 : decode cL_law 4 = .ok (.invokespecial 9, 3) := by decide +kernel
theorem dL_law_7 : decode cL_law 7 = .ok (.astore_n 1, 1) := by decide +kernel
theorem dL_law_8 : decode cL_law 8 = .ok (.new 10, 3) := by decide +kernel
theorem dL_law_11 : decode cL_law 11 = .ok (.dup, 1) := by decide +kernel
theorem dL_law_12 : decode cL_law 12 = .ok (.invokespecial 12, 3) := by decide +kernel
theorem dL_law_15 : decode cL_law 15 = .ok (.astore_n 2, 1) := by decide +kernel
theorem dL_law_16 : decode cL_law 16 = .ok (.iconst 0, 1) := by decide +kernel
theorem dL_law_17 : decode cL_law 17 = .ok (.istore_n 3, 1) := by decide +kernel
theorem dL_law_18 : decode cL_law 18 = .ok (.iload_n 3, 1) := by decide +kernel
theorem dL_law_19 : decode cL_law 19 = .ok (.aload_n 0, 1) := by decide +kernel
theorem dL_law_20 : decode cL_law 20 = .ok (.arraylength, 1) := by decide +kernel
theorem dL_law_21 : decode cL_law 21 = .ok (.iconst 5, 1) := by decide +kernel
theorem dL_law_22 : decode cL_law 22 = .ok (.isub, 1) := by decide +kernel
theorem dL_law_23 : decode cL_law 23 = .ok (.if_icmp .gt 859, 3) := by decide +kernel
theorem dL_law_26 : decode cL_law 26 = .ok (.aload_n 0, 1) := by decide +kernel
theorem dL_law_27 : decode cL_law 27 = .ok (.iload_n 3, 1) := by decide +kernel
theorem dL_law_28 : decode cL_law 28 = .ok (.iaload, 1) := by decide +kernel
theorem dL_law_29 : decode cL_law 29 = .ok (.bipush 31, 2) := by decide +kernel
theorem dL_law_31 : decode cL_law 31 = .ok (.iand, 1) := by decide +kernel
theorem dL_law_32 : decode cL_law 32 = .ok (.tableswitch 844 0 23 #[112, 181, 234, 267, 310, 359, 382, 425, 448, 461, 474, 499, 512, 525, 538, 551, 564, 597, 640, 673, 706, 739, 772, 821], 112) := by decide +kernel
theorem dL_law_144 : decode cL_law 144 = .ok (.aload_n 1, 1) := by decide +kernel
theorem dL_law_145 : decode cL_law 145 = .ok (.aload_n 0, 1) := by decide +kernel
theorem dL_law_146 : decode cL_law 146 = .ok (.iload_n 3, 1) := by decide +kernel
theorem dL_law_147 : decode cL_law 147 = .ok (.iconst 1, 1) := by decide +kernel
theorem dL_law_148 : decode cL_law 148 = .ok (.iadd, 1) := by decide +kernel
theorem dL_law_149 : decode cL_law 149 = .ok (.iaload, 1) := by decide +kernel
theorem dL_law_150 : decode cL_law 150 = .ok (.aload_n 0, 1) := by decide +kernel
theorem dL_law_151 : decode cL_law 151 = .ok (.iload_n 3, 1) := by decide +kernel
theorem dL_law_152 : decode cL_law 152 = .ok (.iconst 2, 1) := by decide +kernel
theorem dL_law_153 : decode cL_law 153 = .ok (.iadd, 1) := by decide +kernel
theorem dL_law_154 : decode cL_law 154 = .ok (.iaload, 1) := by decide +kernel
theorem dL_law_155 : decode cL_law 155 = .ok (.ifCond .eq 7, 3) := by decide +kernel
theorem dL_law_158 : decode cL_law 158 = .ok (.iconst 1, 1) := by decide +kernel
theorem dL_law_159 : decode cL_law 159 = .ok (.goto 4, 3) := by decide +kernel
theorem dL_law_162 : decode cL_law 162 = .ok (.iconst 0, 1) := by decide +kernel
theorem dL_law_163 : decode cL_law 163 = .ok (.aload_n 0, 1) := by decide +kernel
theorem dL_law_164 : decode cL_law 164 = .ok (.iload_n 3, 1) := by decide +kernel
theorem dL_law_165 : decode cL_law 165 = .ok (.iconst 3, 1) := by decide +kernel
theorem dL_law_166 : decode cL_law 166 = .ok (.iadd, 1) := by decide +kernel
theorem dL_law_167 : decode cL_law 167 = .ok (.iaload, 1) := by decide +kernel
theorem dL_law_168 : decode cL_law 168 = .ok (.aload_n 0, 1) := by decide +kernel
theorem dL_law_169 : decode cL_law 169 = .ok (.iload_n 3, 1) := by decide +kernel
theorem dL_law_170 : decode cL_law 170 = .ok (.iconst 4, 1) := by decide +kernel
theorem dL_law_171 : decode cL_law 171 = .ok (.iadd, 1) := by decide +kernel
theorem dL_law_172 : decode cL_law 172 = .ok (.iaload, 1) := by decide +kernel
theorem dL_law_173 : decode cL_law 173 = .ok (.invokevirtual 13, 3) := by decide +kernel
theorem dL_law_176 : decode cL_law 176 = .ok (.aload_n 2, 1) := by decide +kernel
theorem dL_law_177 : decode cL_law 177 = .ok (.aload_n 0, 1) := by decide +kernel
theorem dL_law_178 : decode cL_law 178 = .ok (.iload_n 3, 1) := by decide +kernel
theorem dL_law_179 : decode cL_law 179 = .ok (.iconst 1, 1) := by decide +kernel
theorem dL_law_180 : decode cL_law 180 = .ok (.iadd, 1) := by decide +kernel
theorem dL_law_181 : decode cL_law 181 = .ok (.iaload, 1) := by decide +kernel
theorem dL_law_182 : decode cL_law 182 = .ok (.aload_n 0, 1) := by decide +kernel
theorem dL_law_183 : decode cL_law 183 = .ok (.iload_n 3, 1) := by decide +kernel
theorem dL_law_184 : decode cL_law 184 = .ok (.iconst 2, 1) := by decide +kernel
theorem dL_law_185 : decode cL_law 185 = .ok (.iadd, 1) := by decide +kernel
theorem dL_law_186 : decode cL_law 186 = .ok (.iaload, 1) := by decide +kernel
theorem dL_law_187 : decode cL_law 187 = .ok (.ifCond .eq 7, 3) := by decide +kernel
theorem dL_law_190 : decode cL_law 190 = .ok (.iconst 1, 1) := by decide +kernel
theorem dL_law_191 : decode cL_law 191 = .ok (.goto 4, 3) := by decide +kernel
theorem dL_law_194 : decode cL_law 194 = .ok (.iconst 0, 1) := by decide +kernel
theorem dL_law_195 : decode cL_law 195 = .ok (.aload_n 0, 1) := by decide +kernel
theorem dL_law_196 : decode cL_law 196 = .ok (.iload_n 3, 1) := by decide +kernel
theorem dL_law_197 : decode cL_law 197 = .ok (.iconst 3, 1) := by decide +kernel
theorem dL_law_198 : decode cL_law 198 = .ok (.iadd, 1) := by decide +kernel
theorem dL_law_199 : decode cL_law 199 = .ok (.iaload, 1) := by decide +kernel
theorem dL_law_200 : decode cL_law 200 = .ok (.aload_n 0, 1) := by decide +kernel
theorem dL_law_201 : decode cL_law 201 = .ok (.iload_n 3, 1) := by decide +kernel
theorem dL_law_202 : decode cL_law 202 = .ok (.iconst 4, 1) := by decide +kernel
theorem dL_law_203 : decode cL_law 203 = .ok (.iadd, 1) := by decide +kernel
theorem dL_law_204 : decode cL_law 204 = .ok (.iaload, 1) := by decide +kernel
theorem dL_law_205 : decode cL_law 205 = .ok (.invokevirtual 17, 3) := by decide +kernel
theorem dL_law_208 : decode cL_law 208 = .ok (.if_icmp .eq 668, 3) := by decide +kernel
theorem dL_law_211 : decode cL_law 211 = .ok (.iconst 0, 1) := by decide +kernel
theorem dL_law_212 : decode cL_law 212 = .ok (.ireturn, 1) := by decide +kernel
theorem dL_law_213 : decode cL_law 213 = .ok (.aload_n 1, 1) := by decide +kernel
theorem dL_law_214 : decode cL_law 214 = .ok (.aload_n 0, 1) := by decide +kernel
theorem dL_law_215 : decode cL_law 215 = .ok (.iload_n 3, 1) := by decide +kernel
theorem dL_law_216 : decode cL_law 216 = .ok (.iconst 1, 1) := by decide +kernel
theorem dL_law_217 : decode cL_law 217 = .ok (.iadd, 1) := by decide +kernel
theorem dL_law_218 : decode cL_law 218 = .ok (.iaload, 1) := by decide +kernel
theorem dL_law_219 : decode cL_law 219 = .ok (.aload_n 0, 1) := by decide +kernel
theorem dL_law_220 : decode cL_law 220 = .ok (.iload_n 3, 1) := by decide +kernel
theorem dL_law_221 : decode cL_law 221 = .ok (.iconst 2, 1) := by decide +kernel
theorem dL_law_222 : decode cL_law 222 = .ok (.iadd, 1) := by decide +kernel
theorem dL_law_223 : decode cL_law 223 = .ok (.iaload, 1) := by decide +kernel
theorem dL_law_224 : decode cL_law 224 = .ok (.aload_n 0, 1) := by decide +kernel
theorem dL_law_225 : decode cL_law 225 = .ok (.iload_n 3, 1) := by decide +kernel
theorem dL_law_226 : decode cL_law 226 = .ok (.iconst 3, 1) := by decide +kernel
theorem dL_law_227 : decode cL_law 227 = .ok (.iadd, 1) := by decide +kernel
theorem dL_law_228 : decode cL_law 228 = .ok (.iaload, 1) := by decide +kernel
theorem dL_law_229 : decode cL_law 229 = .ok (.aload_n 0, 1) := by decide +kernel
theorem dL_law_230 : decode cL_law 230 = .ok (.iload_n 3, 1) := by decide +kernel
theorem dL_law_231 : decode cL_law 231 = .ok (.iconst 4, 1) := by decide +kernel
theorem dL_law_232 : decode cL_law 232 = .ok (.iadd, 1) := by decide +kernel
theorem dL_law_233 : decode cL_law 233 = .ok (.iaload, 1) := by decide +kernel
theorem dL_law_234 : decode cL_law 234 = .ok (.invokevirtual 18, 3) := by decide +kernel
theorem dL_law_237 : decode cL_law 237 = .ok (.aload_n 2, 1) := by decide +kernel
theorem dL_law_238 : decode cL_law 238 = .ok (.aload_n 0, 1) := by decide +kernel
theorem dL_law_239 : decode cL_law 239 = .ok (.iload_n 3, 1) := by decide +kernel
theorem dL_law_240 : decode cL_law 240 = .ok (.iconst 1, 1) := by decide +kernel
theorem dL_law_241 : decode cL_law 241 = .ok (.iadd, 1) := by decide +kernel
theorem dL_law_242 : decode cL_law 242 = .ok (.iaload, 1) := by decide +kernel
theorem dL_law_243 : decode cL_law 243 = .ok (.aload_n 0, 1) := by decide +kernel
theorem dL_law_244 : decode cL_law 244 = .ok (.iload_n 3, 1) := by decide +kernel
theorem dL_law_245 : decode cL_law 245 = .ok (.iconst 2, 1) := by decide +kernel
theorem dL_law_246 : decode cL_law 246 = .ok (.iadd, 1) := by decide +kernel
theorem dL_law_247 : decode cL_law 247 = .ok (.iaload, 1) := by decide +kernel
theorem dL_law_248 : decode cL_law 248 = .ok (.aload_n 0, 1) := by decide +kernel
theorem dL_law_249 : decode cL_law 249 = .ok (.iload_n 3, 1) := by decide +kernel
theorem dL_law_250 : decode cL_law 250 = .ok (.iconst 3, 1) := by decide +kernel
theorem dL_law_251 : decode cL_law 251 = .ok (.iadd, 1) := by decide +kernel
theorem dL_law_252 : decode cL_law 252 = .ok (.iaload, 1) := by decide +kernel
theorem dL_law_253 : decode cL_law 253 = .ok (.aload_n 0, 1) := by decide +kernel
theorem dL_law_254 : decode cL_law 254 = .ok (.iload_n 3, 1) := by decide +kernel
theorem dL_law_255 : decode cL_law 255 = .ok (.iconst 4, 1) := by decide +kernel
theorem dL_law_256 : decode cL_law 256 = .ok (.iadd, 1) := by decide +kernel
theorem dL_law_257 : decode cL_law 257 = .ok (.iaload, 1) := by decide +kernel
theorem dL_law_258 : decode cL_law 258 = .ok (.invokevirtual 22, 3) := by decide +kernel
theorem dL_law_261 : decode cL_law 261 = .ok (.if_icmp .eq 615, 3) := by decide +kernel
theorem dL_law_264 : decode cL_law 264 = .ok (.iconst 0, 1) := by decide +kernel
theorem dL_law_265 : decode cL_law 265 = .ok (.ireturn, 1) := by decide +kernel
theorem dL_law_266 : decode cL_law 266 = .ok (.aload_n 1, 1) := by decide +kernel
theorem dL_law_267 : decode cL_law 267 = .ok (.aload_n 0, 1) := by decide +kernel
theorem dL_law_268 : decode cL_law 268 = .ok (.iload_n 3, 1) := by decide +kernel
theorem dL_law_269 : decode cL_law 269 = .ok (.iconst 1, 1) := by decide +kernel
theorem dL_law_270 : decode cL_law 270 = .ok (.iadd, 1) := by decide +kernel
theorem dL_law_271 : decode cL_law 271 = .ok (.iaload, 1) := by decide +kernel
theorem dL_law_272 : decode cL_law 272 = .ok (.aload_n 0, 1) := by decide +kernel
theorem dL_law_273 : decode cL_law 273 = .ok (.iload_n 3, 1) := by decide +kernel
theorem dL_law_274 : decode cL_law 274 = .ok (.iconst 2, 1) := by decide +kernel
theorem dL_law_275 : decode cL_law 275 = .ok (.iadd, 1) := by decide +kernel
theorem dL_law_276 : decode cL_law 276 = .ok (.iaload, 1) := by decide +kernel
theorem dL_law_277 : decode cL_law 277 = .ok (.invokevirtual 23, 3) := by decide +kernel
theorem dL_law_280 : decode cL_law 280 = .ok (.aload_n 2, 1) := by decide +kernel
theorem dL_law_281 : decode cL_law 281 = .ok (.aload_n 0, 1) := by decide +kernel
theorem dL_law_282 : decode cL_law 282 = .ok (.iload_n 3, 1) := by decide +kernel
theorem dL_law_283 : decode cL_law 283 = .ok (.iconst 1, 1) := by decide +kernel
theorem dL_law_284 : decode cL_law 284 = .ok (.iadd, 1) := by decide +kernel
theorem dL_law_285 : decode cL_law 285 = .ok (.iaload, 1) := by decide +kernel
theorem dL_law_286 : decode cL_law 286 = .ok (.aload_n 0, 1) := by decide +kernel
theorem dL_law_287 : decode cL_law 287 = .ok (.iload_n 3, 1) := by decide +kernel
theorem dL_law_288 : decode cL_law 288 = .ok (.iconst 2, 1) := by decide +kernel
theorem dL_law_289 : decode cL_law 289 = .ok (.iadd, 1) := by decide +kernel
theorem dL_law_290 : decode cL_law 290 = .ok (.iaload, 1) := by decide +kernel
theorem dL_law_291 : decode cL_law 291 = .ok (.invokevirtual 27, 3) := by decide +kernel
theorem dL_law_294 : decode cL_law 294 = .ok (.if_icmp .eq 582, 3) := by decide +kernel
theorem dL_law_297 : decode cL_law 297 = .ok (.iconst 0, 1) := by decide +kernel
theorem dL_law_298 : decode cL_law 298 = .ok (.ireturn, 1) := by decide +kernel
theorem dL_law_299 : decode cL_law 299 = .ok (.aload_n 1, 1) := by decide +kernel
theorem dL_law_300 : decode cL_law 300 = .ok (.aload_n 0, 1) := by decide +kernel
theorem dL_law_301 : decode cL_law 301 = .ok (.iload_n 3, 1) := by decide +kernel
theorem dL_law_302 : decode cL_law 302 = .ok (.iconst 1, 1) := by decide +kernel
theorem dL_law_303 : decode cL_law 303 = .ok (.iadd, 1) := by decide +kernel
theorem dL_law_304 : decode cL_law 304 = .ok (.iaload, 1) := by decide +kernel
theorem dL_law_305 : decode cL_law 305 = .ok (.aload_n 0, 1) := by decide +kernel
theorem dL_law_306 : decode cL_law 306 = .ok (.iload_n 3, 1) := by decide +kernel
theorem dL_law_307 : decode cL_law 307 = .ok (.iconst 2, 1) := by decide +kernel
theorem dL_law_308 : decode cL_law 308 = .ok (.iadd, 1) := by decide +kernel
theorem dL_law_309 : decode cL_law 309 = .ok (.iaload, 1) := by decide +kernel
theorem dL_law_310 : decode cL_law 310 = .ok (.aload_n 0, 1) := by decide +kernel
theorem dL_law_311 : decode cL_law 311 = .ok (.iload_n 3, 1) := by decide +kernel
theorem dL_law_312 : decode cL_law 312 = .ok (.iconst 3, 1) := by decide +kernel
theorem dL_law_313 : decode cL_law 313 = .ok (.iadd, 1) := by decide +kernel
theorem dL_law_314 : decode cL_law 314 = .ok (.iaload, 1) := by decide +kernel
theorem dL_law_315 : decode cL_law 315 = .ok (.invokevirtual 28, 3) := by decide +kernel
theorem dL_law_318 : decode cL_law 318 = .ok (.aload_n 2, 1) := by decide +kernel
theorem dL_law_319 : decode cL_law 319 = .ok (.aload_n 0, 1) := by decide +kernel
theorem dL_law_320 : decode cL_law 320 = .ok (.iload_n 3, 1) := by decide +kernel
theorem dL_law_321 : decode cL_law 321 = .ok (.iconst 1, 1) := by decide +kernel
theorem dL_law_322 : decode cL_law 322 = .ok (.iadd, 1) := by decide +kernel
theorem dL_law_323 : decode cL_law 323 = .ok (.iaload, 1) := by decide +kernel
theorem dL_law_324 : decode cL_law 324 = .ok (.aload_n 0, 1) := by decide +kernel
theorem dL_law_325 : decode cL_law 325 = .ok (.iload_n 3, 1) := by decide +kernel
theorem dL_law_326 : decode cL_law 326 = .ok (.iconst 2, 1) := by decide +kernel
theorem dL_law_327 : decode cL_law 327 = .ok (.iadd, 1) := by decide +kernel
theorem dL_law_328 : decode cL_law 328 = .ok (.iaload, 1) := by decide +kernel
theorem dL_law_329 : decode cL_law 329 = .ok (.aload_n 0, 1) := by decide +kernel
theorem dL_law_330 : decode cL_law 330 = .ok (.iload_n 3, 1) := by decide +kernel
theorem dL_law_331 : decode cL_law 331 = .ok (.iconst 3, 1) := by decide +kernel
theorem dL_law_332 : decode cL_law 332 = .ok (.iadd, 1) := by decide +kernel
theorem dL_law_333 : decode cL_law 333 = .ok (.iaload, 1) := by decide +kernel
theorem dL_law_334 : decode cL_law 334 = .ok (.invokevirtual 32, 3) := by decide +kernel
theorem dL_law_337 : decode cL_law 337 = .ok (.if_icmp .eq 539, 3) := by decide +kernel
theorem dL_law_340 : decode cL_law 340 = .ok (.iconst 0, 1) := by decide +kernel
theorem dL_law_341 : decode cL_law 341 = .ok (.ireturn, 1) := by decide +kernel
theorem dL_law_342 : decode cL_law 342 = .ok (.aload_n 1, 1) := by decide +kernel
theorem dL_law_343 : decode cL_law 343 = .ok (.aload_n 0, 1) := by decide +kernel
theorem dL_law_344 : decode cL_law 344 = .ok (.iload_n 3, 1) := by decide +kernel
theorem dL_law_345 : decode cL_law 345 = .ok (.iconst 1, 1) := by decide +kernel
theorem dL_law_346 : decode cL_law 346 = .ok (.iadd, 1) := by decide +kernel
theorem dL_law_347 : decode cL_law 347 = .ok (.iaload, 1) := by decide +kernel
theorem dL_law_348 : decode cL_law 348 = .ok (.aload_n 0, 1) := by decide +kernel
theorem dL_law_349 : decode cL_law 349 = .ok (.iload_n 3, 1) := by decide +kernel
theorem dL_law_350 : decode cL_law 350 = .ok (.iconst 2, 1) := by decide +kernel
theorem dL_law_351 : decode cL_law 351 = .ok (.iadd, 1) := by decide +kernel
theorem dL_law_352 : decode cL_law 352 = .ok (.iaload, 1) := by decide +kernel
theorem dL_law_353 : decode cL_law 353 = .ok (.ifCond .eq 7, 3) := by decide +kernel
theorem dL_law_356 : decode cL_law 356 = .ok (.iconst 1, 1) := by decide +kernel
theorem dL_law_357 : decode cL_law 357 = .ok (.goto 4, 3) := by decide +kernel
theorem dL_law_360 : decode cL_law 360 = .ok (.iconst 0, 1) := by decide +kernel
theorem dL_law_361 : decode cL_law 361 = .ok (.invokevirtual 33, 3) := by decide +kernel
theorem dL_law_364 : decode cL_law 364 = .ok (.aload_n 2, 1) := by decide +kernel
theorem dL_law_365 : decode cL_law 365 = .ok (.aload_n 0, 1) := by decide +kernel
theorem dL_law_366 : decode cL_law 366 = .ok (.iload_n 3, 1) := by decide +kernel
theorem dL_law_367 : decode cL_law 367 = .ok (.iconst 1, 1) := by decide +kernel
theorem dL_law_368 : decode cL_law 368 = .ok (.iadd, 1) := by decide +kernel
theorem dL_law_369 : decode cL_law 369 = .ok (.iaload, 1) := by decide +kernel
theorem dL_law_370 : decode cL_law 370 = .ok (.aload_n 0, 1) := by decide +kernel
theorem dL_law_371 : decode cL_law 371 = .ok (.iload_n 3, 1) := by decide +kernel
theorem dL_law_372 : decode cL_law 372 = .ok (.iconst 2, 1) := by decide +kernel
theorem dL_law_373 : decode cL_law 373 = .ok (.iadd, 1) := by decide +kernel
theorem dL_law_374 : decode cL_law 374 = .ok (.iaload, 1) := by decide +kernel
theorem dL_law_375 : decode cL_law 375 = .ok (.ifCond .eq 7, 3) := by decide +kernel
theorem dL_law_378 : decode cL_law 378 = .ok (.iconst 1, 1) := by decide +kernel
theorem dL_law_379 : decode cL_law 379 = .ok (.goto 4, 3) := by decide +kernel
theorem dL_law_382 : decode cL_law 382 = .ok (.iconst 0, 1) := by decide +kernel
theorem dL_law_383 : decode cL_law 383 = .ok (.invokevirtual 37, 3) := by decide +kernel
theorem dL_law_386 : decode cL_law 386 = .ok (.if_icmp .eq 490, 3) := by decide +kernel
theorem dL_law_389 : decode cL_law 389 = .ok (.iconst 0, 1) := by decide +kernel
theorem dL_law_390 : decode cL_law 390 = .ok (.ireturn, 1) := by decide +kernel
theorem dL_law_391 : decode cL_law 391 = .ok (.aload_n 1, 1) := by decide +kernel
theorem dL_law_392 : decode cL_law 392 = .ok (.aload_n 0, 1) := by decide +kernel
theorem dL_law_393 : decode cL_law 393 = .ok (.iload_n 3, 1) := by decide +kernel
theorem dL_law_394 : decode cL_law 394 = .ok (.iconst 1, 1) := by decide +kernel
theorem dL_law_395 : decode cL_law 395 = .ok (.iadd, 1) := by decide +kernel
theorem dL_law_396 : decode cL_law 396 = .ok (.iaload, 1) := by decide +kernel
theorem dL_law_397 : decode cL_law 397 = .ok (.invokevirtual 38, 3) := by decide +kernel
theorem dL_law_400 : decode cL_law 400 = .ok (.aload_n 2, 1) := by decide +kernel
theorem dL_law_401 : decode cL_law 401 = .ok (.aload_n 0, 1) := by decide +kernel
theorem dL_law_402 : decode cL_law 402 = .ok (.iload_n 3, 1) := by decide +kernel
theorem dL_law_403 : decode cL_law 403 = .ok (.iconst 1, 1) := by decide +kernel
theorem dL_law_404 : decode cL_law 404 = .ok (.iadd, 1) := by decide +kernel
theorem dL_law_405 : decode cL_law 405 = .ok (.iaload, 1) := by decide +kernel
theorem dL_law_406 : decode cL_law 406 = .ok (.invokevirtual 42, 3) := by decide +kernel
theorem dL_law_409 : decode cL_law 409 = .ok (.if_icmp .eq 467, 3) := by decide +kernel
theorem dL_law_412 : decode cL_law 412 = .ok (.iconst 0, 1) := by decide +kernel
theorem dL_law_413 : decode cL_law 413 = .ok (.ireturn, 1) := by decide +kernel
theorem dL_law_414 : decode cL_law 414 = .ok (.aload_n 1, 1) := by decide +kernel
theorem dL_law_415 : decode cL_law 415 = .ok (.aload_n 0, 1) := by decide +kernel
theorem dL_law_416 : decode cL_law 416 = .ok (.iload_n 3, 1) := by decide +kernel
theorem dL_law_417 : decode cL_law 417 = .ok (.iconst 1, 1) := by decide +kernel
theorem dL_law_418 : decode cL_law 418 = .ok (.iadd, 1) := by decide +kernel
theorem dL_law_419 : decode cL_law 419 = .ok (.iaload, 1) := by decide +kernel
theorem dL_law_420 : decode cL_law 420 = .ok (.aload_n 0, 1) := by decide +kernel
theorem dL_law_421 : decode cL_law 421 = .ok (.iload_n 3, 1) := by decide +kernel
theorem dL_law_422 : decode cL_law 422 = .ok (.iconst 2, 1) := by decide +kernel
theorem dL_law_423 : decode cL_law 423 = .ok (.iadd, 1) := by decide +kernel
theorem dL_law_424 : decode cL_law 424 = .ok (.iaload, 1) := by decide +kernel
theorem dL_law_425 : decode cL_law 425 = .ok (.aload_n 0, 1) := by decide +kernel
theorem dL_law_426 : decode cL_law 426 = .ok (.iload_n 3, 1) := by decide +kernel
theorem dL_law_427 : decode cL_law 427 = .ok (.iconst 3, 1) := by decide +kernel
theorem dL_law_428 : decode cL_law 428 = .ok (.iadd, 1) := by decide +kernel
theorem dL_law_429 : decode cL_law 429 = .ok (.iaload, 1) := by decide +kernel
theorem dL_law_430 : decode cL_law 430 = .ok (.invokevirtual 43, 3) := by decide +kernel
theorem dL_law_433 : decode cL_law 433 = .ok (.aload_n 2, 1) := by decide +kernel
theorem dL_law_434 : decode cL_law 434 = .ok (.aload_n 0, 1) := by decide +kernel
theorem dL_law_435 : decode cL_law 435 = .ok (.iload_n 3, 1) := by decide +kernel
theorem dL_law_436 : decode cL_law 436 = .ok (.iconst 1, 1) := by decide +kernel
theorem dL_law_437 : decode cL_law 437 = .ok (.iadd, 1) := by decide +kernel
theorem dL_law_438 : decode cL_law 438 = .ok (.iaload, 1) := by decide +kernel
theorem dL_law_439 : decode cL_law 439 = .ok (.aload_n 0, 1) := by decide +kernel
theorem dL_law_440 : decode cL_law 440 = .ok (.iload_n 3, 1) := by decide +kernel
theorem dL_law_441 : decode cL_law 441 = .ok (.iconst 2, 1) := by decide +kernel
theorem dL_law_442 : decode cL_law 442 = .ok (.iadd, 1) := by decide +kernel
theorem dL_law_443 : decode cL_law 443 = .ok (.iaload, 1) := by decide +kernel
theorem dL_law_444 : decode cL_law 444 = .ok (.aload_n 0, 1) := by decide +kernel
theorem dL_law_445 : decode cL_law 445 = .ok (.iload_n 3, 1) := by decide +kernel
theorem dL_law_446 : decode cL_law 446 = .ok (.iconst 3, 1) := by decide +kernel
theorem dL_law_447 : decode cL_law 447 = .ok (.iadd, 1) := by decide +kernel
theorem dL_law_448 : decode cL_law 448 = .ok (.iaload, 1) := by decide +kernel
theorem dL_law_449 : decode cL_law 449 = .ok (.invokevirtual 46, 3) := by decide +kernel
theorem dL_law_452 : decode cL_law 452 = .ok (.if_icmp .eq 424, 3) := by decide +kernel
theorem dL_law_455 : decode cL_law 455 = .ok (.iconst 0, 1) := by decide +kernel
theorem dL_law_456 : decode cL_law 456 = .ok (.ireturn, 1) := by decide +kernel
theorem dL_law_457 : decode cL_law 457 = .ok (.aload_n 1, 1) := by decide +kernel
theorem dL_law_458 : decode cL_law 458 = .ok (.aload_n 0, 1) := by decide +kernel
theorem dL_law_459 : decode cL_law 459 = .ok (.iload_n 3, 1) := by decide +kernel
theorem dL_law_460 : decode cL_law 460 = .ok (.iconst 1, 1) := by decide +kernel
theorem dL_law_461 : decode cL_law 461 = .ok (.iadd, 1) := by decide +kernel
theorem dL_law_462 : decode cL_law 462 = .ok (.iaload, 1) := by decide +kernel
theorem dL_law_463 : decode cL_law 463 = .ok (.invokevirtual 47, 3) := by decide +kernel
theorem dL_law_466 : decode cL_law 466 = .ok (.aload_n 2, 1) := by decide +kernel
theorem dL_law_467 : decode cL_law 467 = .ok (.aload_n 0, 1) := by decide +kernel
theorem dL_law_468 : decode cL_law 468 = .ok (.iload_n 3, 1) := by decide +kernel
theorem dL_law_469 : decode cL_law 469 = .ok (.iconst 1, 1) := by decide +kernel
theorem dL_law_470 : decode cL_law 470 = .ok (.iadd, 1) := by decide +kernel
theorem dL_law_471 : decode cL_law 471 = .ok (.iaload, 1) := by decide +kernel
theorem dL_law_472 : decode cL_law 472 = .ok (.invokevirtual 50, 3) := by decide +kernel
theorem dL_law_475 : decode cL_law 475 = .ok (.if_icmp .eq 401, 3) := by decide +kernel
theorem dL_law_478 : decode cL_law 478 = .ok (.iconst 0, 1) := by decide +kernel
theorem dL_law_479 : decode cL_law 479 = .ok (.ireturn, 1) := by decide +kernel
theorem dL_law_480 : decode cL_law 480 = .ok (.aload_n 1, 1) := by decide +kernel
theorem dL_law_481 : decode cL_law 481 = .ok (.invokevirtual 51, 3) := by decide +kernel
theorem dL_law_484 : decode cL_law 484 = .ok (.aload_n 2, 1) := by decide +kernel
theorem dL_law_485 : decode cL_law 485 = .ok (.invokevirtual 55, 3) := by decide +kernel
theorem dL_law_488 : decode cL_law 488 = .ok (.if_icmp .eq 388, 3) := by decide +kernel
theorem dL_law_491 : decode cL_law 491 = .ok (.iconst 0, 1) := by decide +kernel
theorem dL_law_492 : decode cL_law 492 = .ok (.ireturn, 1) := by decide +kernel
theorem dL_law_493 : decode cL_law 493 = .ok (.aload_n 1, 1) := by decide +kernel
theorem dL_law_494 : decode cL_law 494 = .ok (.invokevirtual 56, 3) := by decide +kernel
theorem dL_law_497 : decode cL_law 497 = .ok (.aload_n 2, 1) := by decide +kernel
theorem dL_law_498 : decode cL_law 498 = .ok (.invokevirtual 59, 3) := by decide +kernel
theorem dL_law_501 : decode cL_law 501 = .ok (.if_icmp .eq 375, 3) := by decide +kernel
theorem dL_law_504 : decode cL_law 504 = .ok (.iconst 0, 1) := by decide +kernel
theorem dL_law_505 : decode cL_law 505 = .ok (.ireturn, 1) := by decide +kernel
theorem dL_law_506 : decode cL_law 506 = .ok (.aload_n 1, 1) := by decide +kernel
theorem dL_law_507 : decode cL_law 507 = .ok (.aload_n 0, 1) := by decide +kernel
theorem dL_law_508 : decode cL_law 508 = .ok (.iload_n 3, 1) := by decide +kernel
theorem dL_law_509 : decode cL_law 509 = .ok (.iconst 1, 1) := by decide +kernel
theorem dL_law_510 : decode cL_law 510 = .ok (.iadd, 1) := by decide +kernel
theorem dL_law_511 : decode cL_law 511 = .ok (.iaload, 1) := by decide +kernel
theorem dL_law_512 : decode cL_law 512 = .ok (.i2c, 1) := by decide +kernel
theorem dL_law_513 : decode cL_law 513 = .ok (.invokevirtual 60, 3) := by decide +kernel
theorem dL_law_516 : decode cL_law 516 = .ok (.aload_n 2, 1) := by decide +kernel
theorem dL_law_517 : decode cL_law 517 = .ok (.aload_n 0, 1) := by decide +kernel
theorem dL_law_518 : decode cL_law 518 = .ok (.iload_n 3, 1) := by decide +kernel
theorem dL_law_519 : decode cL_law 519 = .ok (.iconst 1, 1) := by decide +kernel
theorem dL_law_520 : decode cL_law 520 = .ok (.iadd, 1) := by decide +kernel
theorem dL_law_521 : decode cL_law 521 = .ok (.iaload, 1) := by decide +kernel
theorem dL_law_522 : decode cL_law 522 = .ok (.i2c, 1) := by decide +kernel
theorem dL_law_523 : decode cL_law 523 = .ok (.invokevirtual 64, 3) := by decide +kernel
theorem dL_law_526 : decode cL_law 526 = .ok (.if_icmp .eq 350, 3) := by decide +kernel
theorem dL_law_529 : decode cL_law 529 = .ok (.iconst 0, 1) := by decide +kernel
theorem dL_law_530 : decode cL_law 530 = .ok (.ireturn, 1) := by decide +kernel
theorem dL_law_531 : decode cL_law 531 = .ok (.aload_n 1, 1) := by decide +kernel
theorem dL_law_532 : decode cL_law 532 = .ok (.invokevirtual 65, 3) := by decide +kernel
theorem dL_law_535 : decode cL_law 535 = .ok (.aload_n 2, 1) := by decide +kernel
theorem dL_law_536 : decode cL_law 536 = .ok (.invokevirtual 68, 3) := by decide +kernel
theorem dL_law_539 : decode cL_law 539 = .ok (.if_icmp .eq 337, 3) := by decide +kernel
theorem dL_law_542 : decode cL_law 542 = .ok (.iconst 0, 1) := by decide +kernel
theorem dL_law_543 : decode cL_law 543 = .ok (.ireturn, 1) := by decide +kernel
theorem dL_law_544 : decode cL_law 544 = .ok (.aload_n 1, 1) := by decide +kernel
theorem dL_law_545 : decode cL_law 545 = .ok (.invokevirtual 69, 3) := by decide +kernel
theorem dL_law_548 : decode cL_law 548 = .ok (.aload_n 2, 1) := by decide +kernel
theorem dL_law_549 : decode cL_law 549 = .ok (.invokevirtual 72, 3) := by decide +kernel
theorem dL_law_552 : decode cL_law 552 = .ok (.if_icmp .eq 324, 3) := by decide +kernel
theorem dL_law_555 : decode cL_law 555 = .ok (.iconst 0, 1) := by decide +kernel
theorem dL_law_556 : decode cL_law 556 = .ok (.ireturn, 1) := by decide +kernel
theorem dL_law_557 : decode cL_law 557 = .ok (.aload_n 1, 1) := by decide +kernel
theorem dL_law_558 : decode cL_law 558 = .ok (.invokevirtual 73, 3) := by decide +kernel
theorem dL_law_561 : decode cL_law 561 = .ok (.aload_n 2, 1) := by decide +kernel
theorem dL_law_562 : decode cL_law 562 = .ok (.invokevirtual 76, 3) := by decide +kernel
theorem dL_law_565 : decode cL_law 565 = .ok (.if_icmp .eq 311, 3) := by decide +kernel
theorem dL_law_568 : decode cL_law 568 = .ok (.iconst 0, 1) := by decide +kernel
theorem dL_law_569 : decode cL_law 569 = .ok (.ireturn, 1) := by decide +kernel
theorem dL_law_570 : decode cL_law 570 = .ok (.aload_n 1, 1) := by decide +kernel
theorem dL_law_571 : decode cL_law 571 = .ok (.invokevirtual 77, 3) := by decide +kernel
theorem dL_law_574 : decode cL_law 574 = .ok (.aload_n 2, 1) := by decide +kernel
theorem dL_law_575 : decode cL_law 575 = .ok (.invokevirtual 80, 3) := by decide +kernel
theorem dL_law_578 : decode cL_law 578 = .ok (.if_icmp .eq 298, 3) := by decide +kernel
theorem dL_law_581 : decode cL_law 581 = .ok (.iconst 0, 1) := by decide +kernel
theorem dL_law_582 : decode cL_law 582 = .ok (.ireturn, 1) := by decide +kernel
theorem dL_law_583 : decode cL_law 583 = .ok (.aload_n 1, 1) := by decide +kernel
theorem dL_law_584 : decode cL_law 584 = .ok (.invokevirtual 81, 3) := by decide +kernel
theorem dL_law_587 : decode cL_law 587 = .ok (.aload_n 2, 1) := by decide +kernel
theorem dL_law_588 : decode cL_law 588 = .ok (.invokevirtual 84, 3) := by decide +kernel
theorem dL_law_591 : decode cL_law 591 = .ok (.if_icmp .eq 285, 3) := by decide +kernel
theorem dL_law_594 : decode cL_law 594 = .ok (.iconst 0, 1) := by decide +kernel
theorem dL_law_595 : decode cL_law 595 = .ok (.ireturn, 1) := by decide +kernel
theorem dL_law_596 : decode cL_law 596 = .ok (.aload_n 1, 1) := by decide +kernel
theorem dL_law_597 : decode cL_law 597 = .ok (.aload_n 0, 1) := by decide +kernel
theorem dL_law_598 : decode cL_law 598 = .ok (.iload_n 3, 1) := by decide +kernel
theorem dL_law_599 : decode cL_law 599 = .ok (.iconst 1, 1) := by decide +kernel
theorem dL_law_600 : decode cL_law 600 = .ok (.iadd, 1) := by decide +kernel
theorem dL_law_601 : decode cL_law 601 = .ok (.iaload, 1) := by decide +kernel
theorem dL_law_602 : decode cL_law 602 = .ok (.aload_n 0, 1) := by decide +kernel
theorem dL_law_603 : decode cL_law 603 = .ok (.iload_n 3, 1) := by decide +kernel
theorem dL_law_604 : decode cL_law 604 = .ok (.iconst 2, 1) := by decide +kernel
theorem dL_law_605 : decode cL_law 605 = .ok (.iadd, 1) := by decide +kernel
theorem dL_law_606 : decode cL_law 606 = .ok (.iaload, 1) := by decide +kernel
theorem dL_law_607 : decode cL_law 607 = .ok (.invokevirtual 85, 3) := by decide +kernel
theorem dL_law_610 : decode cL_law 610 = .ok (.aload_n 2, 1) := by decide +kernel
theorem dL_law_611 : decode cL_law 611 = .ok (.aload_n 0, 1) := by decide +kernel
theorem dL_law_612 : decode cL_law 612 = .ok (.iload_n 3, 1) := by decide +kernel
theorem dL_law_613 : decode cL_law 613 = .ok (.iconst 1, 1) := by decide +kernel
theorem dL_law_614 : decode cL_law 614 = .ok (.iadd, 1) := by decide +kernel
theorem dL_law_615 : decode cL_law 615 = .ok (.iaload, 1) := by decide +kernel
theorem dL_law_616 : decode cL_law 616 = .ok (.aload_n 0, 1) := by decide +kernel
theorem dL_law_617 : decode cL_law 617 = .ok (.iload_n 3, 1) := by decide +kernel
theorem dL_law_618 : decode cL_law 618 = .ok (.iconst 2, 1) := by decide +kernel
theorem dL_law_619 : decode cL_law 619 = .ok (.iadd, 1) := by decide +kernel
theorem dL_law_620 : decode cL_law 620 = .ok (.iaload, 1) := by decide +kernel
theorem dL_law_621 : decode cL_law 621 = .ok (.invokevirtual 88, 3) := by decide +kernel
theorem dL_law_624 : decode cL_law 624 = .ok (.if_icmp .eq 252, 3) := by decide +kernel
theorem dL_law_627 : decode cL_law 627 = .ok (.iconst 0, 1) := by decide +kernel
theorem dL_law_628 : decode cL_law 628 = .ok (.ireturn, 1) := by decide +kernel
theorem dL_law_629 : decode cL_law 629 = .ok (.aload_n 1, 1) := by decide +kernel
theorem dL_law_630 : decode cL_law 630 = .ok (.aload_n 0, 1) := by decide +kernel
theorem dL_law_631 : decode cL_law 631 = .ok (.iload_n 3, 1) := by decide +kernel
theorem dL_law_632 : decode cL_law 632 = .ok (.iconst 1, 1) := by decide +kernel
theorem dL_law_633 : decode cL_law 633 = .ok (.iadd, 1) := by decide +kernel
theorem dL_law_634 : decode cL_law 634 = .ok (.iaload, 1) := by decide +kernel
theorem dL_law_635 : decode cL_law 635 = .ok (.aload_n 0, 1) := by decide +kernel
theorem dL_law_636 : decode cL_law 636 = .ok (.iload_n 3, 1) := by decide +kernel
theorem dL_law_637 : decode cL_law 637 = .ok (.iconst 2, 1) := by decide +kernel
theorem dL_law_638 : decode cL_law 638 = .ok (.iadd, 1) := by decide +kernel
theorem dL_law_639 : decode cL_law 639 = .ok (.iaload, 1) := by decide +kernel
theorem dL_law_640 : decode cL_law 640 = .ok (.aload_n 0, 1) := by decide +kernel
theorem dL_law_641 : decode cL_law 641 = .ok (.iload_n 3, 1) := by decide +kernel
theorem dL_law_642 : decode cL_law 642 = .ok (.iconst 3, 1) := by decide +kernel
theorem dL_law_643 : decode cL_law 643 = .ok (.iadd, 1) := by decide +kernel
theorem dL_law_644 : decode cL_law 644 = .ok (.iaload, 1) := by decide +kernel
theorem dL_law_645 : decode cL_law 645 = .ok (.invokevirtual 89, 3) := by decide +kernel
theorem dL_law_648 : decode cL_law 648 = .ok (.aload_n 2, 1) := by decide +kernel
theorem dL_law_649 : decode cL_law 649 = .ok (.aload_n 0, 1) := by decide +kernel
theorem dL_law_650 : decode cL_law 650 = .ok (.iload_n 3, 1) := by decide +kernel
theorem dL_law_651 : decode cL_law 651 = .ok (.iconst 1, 1) := by decide +kernel
theorem dL_law_652 : decode cL_law 652 = .ok (.iadd, 1) := by decide +kernel
theorem dL_law_653 : decode cL_law 653 = .ok (.iaload, 1) := by decide +kernel
theorem dL_law_654 : decode cL_law 654 = .ok (.aload_n 0, 1) := by decide +kernel
theorem dL_law_655 : decode cL_law 655 = .ok (.iload_n 3, 1) := by decide +kernel
theorem dL_law_656 : decode cL_law 656 = .ok (.iconst 2, 1) := by decide +kernel
theorem dL_law_657 : decode cL_law 657 = .ok (.iadd, 1) := by decide +kernel
theorem dL_law_658 : decode cL_law 658 = .ok (.iaload, 1) := by decide +kernel
theorem dL_law_659 : decode cL_law 659 = .ok (.aload_n 0, 1) := by decide +kernel
theorem dL_law_660 : decode cL_law 660 = .ok (.iload_n 3, 1) := by decide +kernel
theorem dL_law_661 : decode cL_law 661 = .ok (.iconst 3, 1) := by decide +kernel
theorem dL_law_662 : decode cL_law 662 = .ok (.iadd, 1) := by decide +kernel
theorem dL_law_663 : decode cL_law 663 = .ok (.iaload, 1) := by decide +kernel
theorem dL_law_664 : decode cL_law 664 = .ok (.invokevirtual 92, 3) := by decide +kernel
theorem dL_law_667 : decode cL_law 667 = .ok (.if_icmp .eq 209, 3) := by decide +kernel
theorem dL_law_670 : decode cL_law 670 = .ok (.iconst 0, 1) := by decide +kernel
theorem dL_law_671 : decode cL_law 671 = .ok (.ireturn, 1) := by decide +kernel
theorem dL_law_672 : decode cL_law 672 = .ok (.aload_n 1, 1) := by decide +kernel
theorem dL_law_673 : decode cL_law 673 = .ok (.aload_n 0, 1) := by decide +kernel
theorem dL_law_674 : decode cL_law 674 = .ok (.iload_n 3, 1) := by decide +kernel
theorem dL_law_675 : decode cL_law 675 = .ok (.iconst 1, 1) := by decide +kernel
theorem dL_law_676 : decode cL_law 676 = .ok (.iadd, 1) := by decide +kernel
theorem dL_law_677 : decode cL_law 677 = .ok (.iaload, 1) := by decide +kernel
theorem dL_law_678 : decode cL_law 678 = .ok (.aload_n 0, 1) := by decide +kernel
theorem dL_law_679 : decode cL_law 679 = .ok (.iload_n 3, 1) := by decide +kernel
theorem dL_law_680 : decode cL_law 680 = .ok (.iconst 2, 1) := by decide +kernel
theorem dL_law_681 : decode cL_law 681 = .ok (.iadd, 1) := by decide +kernel
theorem dL_law_682 : decode cL_law 682 = .ok (.iaload, 1) := by decide +kernel
theorem dL_law_683 : decode cL_law 683 = .ok (.invokevirtual 93, 3) := by decide +kernel
theorem dL_law_686 : decode cL_law 686 = .ok (.aload_n 2, 1) := by decide +kernel
theorem dL_law_687 : decode cL_law 687 = .ok (.aload_n 0, 1) := by decide +kernel
theorem dL_law_688 : decode cL_law 688 = .ok (.iload_n 3, 1) := by decide +kernel
theorem dL_law_689 : decode cL_law 689 = .ok (.iconst 1, 1) := by decide +kernel
theorem dL_law_690 : decode cL_law 690 = .ok (.iadd, 1) := by decide +kernel
theorem dL_law_691 : decode cL_law 691 = .ok (.iaload, 1) := by decide +kernel
theorem dL_law_692 : decode cL_law 692 = .ok (.aload_n 0, 1) := by decide +kernel
theorem dL_law_693 : decode cL_law 693 = .ok (.iload_n 3, 1) := by decide +kernel
theorem dL_law_694 : decode cL_law 694 = .ok (.iconst 2, 1) := by decide +kernel
theorem dL_law_695 : decode cL_law 695 = .ok (.iadd, 1) := by decide +kernel
theorem dL_law_696 : decode cL_law 696 = .ok (.iaload, 1) := by decide +kernel
theorem dL_law_697 : decode cL_law 697 = .ok (.invokevirtual 96, 3) := by decide +kernel
theorem dL_law_700 : decode cL_law 700 = .ok (.if_icmp .eq 176, 3) := by decide +kernel
theorem dL_law_703 : decode cL_law 703 = .ok (.iconst 0, 1) := by decide +kernel
theorem dL_law_704 : decode cL_law 704 = .ok (.ireturn, 1) := by decide +kernel
theorem dL_law_705 : decode cL_law 705 = .ok (.aload_n 1, 1) := by decide +kernel
theorem dL_law_706 : decode cL_law 706 = .ok (.aload_n 0, 1) := by decide +kernel
theorem dL_law_707 : decode cL_law 707 = .ok (.iload_n 3, 1) := by decide +kernel
theorem dL_law_708 : decode cL_law 708 = .ok (.iconst 1, 1) := by decide +kernel
theorem dL_law_709 : decode cL_law 709 = .ok (.iadd, 1) := by decide +kernel
theorem dL_law_710 : decode cL_law 710 = .ok (.iaload, 1) := by decide +kernel
theorem dL_law_711 : decode cL_law 711 = .ok (.aload_n 0, 1) := by decide +kernel
theorem dL_law_712 : decode cL_law 712 = .ok (.iload_n 3, 1) := by decide +kernel
theorem dL_law_713 : decode cL_law 713 = .ok (.iconst 2, 1) := by decide +kernel
theorem dL_law_714 : decode cL_law 714 = .ok (.iadd, 1) := by decide +kernel
theorem dL_law_715 : decode cL_law 715 = .ok (.iaload, 1) := by decide +kernel
theorem dL_law_716 : decode cL_law 716 = .ok (.invokevirtual 97, 3) := by decide +kernel
theorem dL_law_719 : decode cL_law 719 = .ok (.aload_n 2, 1) := by decide +kernel
theorem dL_law_720 : decode cL_law 720 = .ok (.aload_n 0, 1) := by decide +kernel
theorem dL_law_721 : decode cL_law 721 = .ok (.iload_n 3, 1) := by decide +kernel
theorem dL_law_722 : decode cL_law 722 = .ok (.iconst 1, 1) := by decide +kernel
theorem dL_law_723 : decode cL_law 723 = .ok (.iadd, 1) := by decide +kernel
theorem dL_law_724 : decode cL_law 724 = .ok (.iaload, 1) := by decide +kernel
theorem dL_law_725 : decode cL_law 725 = .ok (.aload_n 0, 1) := by decide +kernel
theorem dL_law_726 : decode cL_law 726 = .ok (.iload_n 3, 1) := by decide +kernel
theorem dL_law_727 : decode cL_law 727 = .ok (.iconst 2, 1) := by decide +kernel
theorem dL_law_728 : decode cL_law 728 = .ok (.iadd, 1) := by decide +kernel
theorem dL_law_729 : decode cL_law 729 = .ok (.iaload, 1) := by decide +kernel
theorem dL_law_730 : decode cL_law 730 = .ok (.invokevirtual 100, 3) := by decide +kernel
theorem dL_law_733 : decode cL_law 733 = .ok (.if_icmp .eq 143, 3) := by decide +kernel
theorem dL_law_736 : decode cL_law 736 = .ok (.iconst 0, 1) := by decide +kernel
theorem dL_law_737 : decode cL_law 737 = .ok (.ireturn, 1) := by decide +kernel
theorem dL_law_738 : decode cL_law 738 = .ok (.aload_n 1, 1) := by decide +kernel
theorem dL_law_739 : decode cL_law 739 = .ok (.aload_n 0, 1) := by decide +kernel
theorem dL_law_740 : decode cL_law 740 = .ok (.iload_n 3, 1) := by decide +kernel
theorem dL_law_741 : decode cL_law 741 = .ok (.iconst 1, 1) := by decide +kernel
theorem dL_law_742 : decode cL_law 742 = .ok (.iadd, 1) := by decide +kernel
theorem dL_law_743 : decode cL_law 743 = .ok (.iaload, 1) := by decide +kernel
theorem dL_law_744 : decode cL_law 744 = .ok (.aload_n 0, 1) := by decide +kernel
theorem dL_law_745 : decode cL_law 745 = .ok (.iload_n 3, 1) := by decide +kernel
theorem dL_law_746 : decode cL_law 746 = .ok (.iconst 2, 1) := by decide +kernel
theorem dL_law_747 : decode cL_law 747 = .ok (.iadd, 1) := by decide +kernel
theorem dL_law_748 : decode cL_law 748 = .ok (.iaload, 1) := by decide +kernel
theorem dL_law_749 : decode cL_law 749 = .ok (.invokevirtual 101, 3) := by decide +kernel
theorem dL_law_752 : decode cL_law 752 = .ok (.aload_n 2, 1) := by decide +kernel
theorem dL_law_753 : decode cL_law 753 = .ok (.aload_n 0, 1) := by decide +kernel
theorem dL_law_754 : decode cL_law 754 = .ok (.iload_n 3, 1) := by decide +kernel
theorem dL_law_755 : decode cL_law 755 = .ok (.iconst 1, 1) := by decide +kernel
theorem dL_law_756 : decode cL_law 756 = .ok (.iadd, 1) := by decide +kernel
theorem dL_law_757 : decode cL_law 757 = .ok (.iaload, 1) := by decide +kernel
theorem dL_law_758 : decode cL_law 758 = .ok (.aload_n 0, 1) := by decide +kernel
theorem dL_law_759 : decode cL_law 759 = .ok (.iload_n 3, 1) := by decide +kernel
theorem dL_law_760 : decode cL_law 760 = .ok (.iconst 2, 1) := by decide +kernel
theorem dL_law_761 : decode cL_law 761 = .ok (.iadd, 1) := by decide +kernel
theorem dL_law_762 : decode cL_law 762 = .ok (.iaload, 1) := by decide +kernel
theorem dL_law_763 : decode cL_law 763 = .ok (.invokevirtual 104, 3) := by decide +kernel
theorem dL_law_766 : decode cL_law 766 = .ok (.if_icmp .eq 110, 3) := by decide +kernel
theorem dL_law_769 : decode cL_law 769 = .ok (.iconst 0, 1) := by decide +kernel
theorem dL_law_770 : decode cL_law 770 = .ok (.ireturn, 1) := by decide +kernel
theorem dL_law_771 : decode cL_law 771 = .ok (.aload_n 1, 1) := by decide +kernel
theorem dL_law_772 : decode cL_law 772 = .ok (.aload_n 0, 1) := by decide +kernel
theorem dL_law_773 : decode cL_law 773 = .ok (.iload_n 3, 1) := by decide +kernel
theorem dL_law_774 : decode cL_law 774 = .ok (.iconst 1, 1) := by decide +kernel
theorem dL_law_775 : decode cL_law 775 = .ok (.iadd, 1) := by decide +kernel
theorem dL_law_776 : decode cL_law 776 = .ok (.iaload, 1) := by decide +kernel
theorem dL_law_777 : decode cL_law 777 = .ok (.aload_n 0, 1) := by decide +kernel
theorem dL_law_778 : decode cL_law 778 = .ok (.iload_n 3, 1) := by decide +kernel
theorem dL_law_779 : decode cL_law 779 = .ok (.iconst 2, 1) := by decide +kernel
theorem dL_law_780 : decode cL_law 780 = .ok (.iadd, 1) := by decide +kernel
theorem dL_law_781 : decode cL_law 781 = .ok (.iaload, 1) := by decide +kernel
theorem dL_law_782 : decode cL_law 782 = .ok (.invokevirtual 105, 3) := by decide +kernel
theorem dL_law_785 : decode cL_law 785 = .ok (.aload_n 2, 1) := by decide +kernel
theorem dL_law_786 : decode cL_law 786 = .ok (.aload_n 0, 1) := by decide +kernel
theorem dL_law_787 : decode cL_law 787 = .ok (.iload_n 3, 1) := by decide +kernel
theorem dL_law_788 : decode cL_law 788 = .ok (.iconst 1, 1) := by decide +kernel
theorem dL_law_789 : decode cL_law 789 = .ok (.iadd, 1) := by decide +kernel
theorem dL_law_790 : decode cL_law 790 = .ok (.iaload, 1) := by decide +kernel
theorem dL_law_791 : decode cL_law 791 = .ok (.aload_n 0, 1) := by decide +kernel
theorem dL_law_792 : decode cL_law 792 = .ok (.iload_n 3, 1) := by decide +kernel
theorem dL_law_793 : decode cL_law 793 = .ok (.iconst 2, 1) := by decide +kernel
theorem dL_law_794 : decode cL_law 794 = .ok (.iadd, 1) := by decide +kernel
theorem dL_law_795 : decode cL_law 795 = .ok (.iaload, 1) := by decide +kernel
theorem dL_law_796 : decode cL_law 796 = .ok (.invokevirtual 108, 3) := by decide +kernel
theorem dL_law_799 : decode cL_law 799 = .ok (.if_icmp .eq 77, 3) := by decide +kernel
theorem dL_law_802 : decode cL_law 802 = .ok (.iconst 0, 1) := by decide +kernel
theorem dL_law_803 : decode cL_law 803 = .ok (.ireturn, 1) := by decide +kernel
theorem dL_law_804 : decode cL_law 804 = .ok (.aload_n 1, 1) := by decide +kernel
theorem dL_law_805 : decode cL_law 805 = .ok (.aload_n 0, 1) := by decide +kernel
theorem dL_law_806 : decode cL_law 806 = .ok (.iload_n 3, 1) := by decide +kernel
theorem dL_law_807 : decode cL_law 807 = .ok (.iconst 1, 1) := by decide +kernel
theorem dL_law_808 : decode cL_law 808 = .ok (.iadd, 1) := by decide +kernel
theorem dL_law_809 : decode cL_law 809 = .ok (.iaload, 1) := by decide +kernel
theorem dL_law_810 : decode cL_law 810 = .ok (.aload_n 0, 1) := by decide +kernel
theorem dL_law_811 : decode cL_law 811 = .ok (.iload_n 3, 1) := by decide +kernel
theorem dL_law_812 : decode cL_law 812 = .ok (.iconst 2, 1) := by decide +kernel
theorem dL_law_813 : decode cL_law 813 = .ok (.iadd, 1) := by decide +kernel
theorem dL_law_814 : decode cL_law 814 = .ok (.iaload, 1) := by decide +kernel
theorem dL_law_815 : decode cL_law 815 = .ok (.ifCond .eq 7, 3) := by decide +kernel
theorem dL_law_818 : decode cL_law 818 = .ok (.iconst 1, 1) := by decide +kernel
theorem dL_law_819 : decode cL_law 819 = .ok (.goto 4, 3) := by decide +kernel
theorem dL_law_822 : decode cL_law 822 = .ok (.iconst 0, 1) := by decide +kernel
theorem dL_law_823 : decode cL_law 823 = .ok (.invokevirtual 109, 3) := by decide +kernel
theorem dL_law_826 : decode cL_law 826 = .ok (.aload_n 2, 1) := by decide +kernel
theorem dL_law_827 : decode cL_law 827 = .ok (.aload_n 0, 1) := by decide +kernel
theorem dL_law_828 : decode cL_law 828 = .ok (.iload_n 3, 1) := by decide +kernel
theorem dL_law_829 : decode cL_law 829 = .ok (.iconst 1, 1) := by decide +kernel
theorem dL_law_830 : decode cL_law 830 = .ok (.iadd, 1) := by decide +kernel
theorem dL_law_831 : decode cL_law 831 = .ok (.iaload, 1) := by decide +kernel
theorem dL_law_832 : decode cL_law 832 = .ok (.aload_n 0, 1) := by decide +kernel
theorem dL_law_833 : decode cL_law 833 = .ok (.iload_n 3, 1) := by decide +kernel
theorem dL_law_834 : decode cL_law 834 = .ok (.iconst 2, 1) := by decide +kernel
theorem dL_law_835 : decode cL_law 835 = .ok (.iadd, 1) := by decide +kernel
theorem dL_law_836 : decode cL_law 836 = .ok (.iaload, 1) := by decide +kernel
theorem dL_law_837 : decode cL_law 837 = .ok (.ifCond .eq 7, 3) := by decide +kernel
theorem dL_law_840 : decode cL_law 840 = .ok (.iconst 1, 1) := by decide +kernel
theorem dL_law_841 : decode cL_law 841 = .ok (.goto 4, 3) := by decide +kernel
theorem dL_law_844 : decode cL_law 844 = .ok (.iconst 0, 1) := by decide +kernel
theorem dL_law_845 : decode cL_law 845 = .ok (.invokevirtual 112, 3) := by decide +kernel
theorem dL_law_848 : decode cL_law 848 = .ok (.if_icmp .eq 28, 3) := by decide +kernel
theorem dL_law_851 : decode cL_law 851 = .ok (.iconst 0, 1) := by decide +kernel
theorem dL_law_852 : decode cL_law 852 = .ok (.ireturn, 1) := by decide +kernel
theorem dL_law_853 : decode cL_law 853 = .ok (.aload_n 1, 1) := by decide +kernel
theorem dL_law_854 : decode cL_law 854 = .ok (.aload_n 0, 1) := by decide +kernel
theorem dL_law_855 : decode cL_law 855 = .ok (.iload_n 3, 1) := by decide +kernel
theorem dL_law_856 : decode cL_law 856 = .ok (.iconst 1, 1) := by decide +kernel
theorem dL_law_857 : decode cL_law 857 = .ok (.iadd, 1) := by decide +kernel
theorem dL_law_858 : decode cL_law 858 = .ok (.iaload, 1) := by decide +kernel
theorem dL_law_859 : decode cL_law 859 = .ok (.invokevirtual 113, 3) := by decide +kernel
theorem dL_law_862 : decode cL_law 862 = .ok (.aload_n 2, 1) := by decide +kernel
theorem dL_law_863 : decode cL_law 863 = .ok (.aload_n 0, 1) := by decide +kernel
theorem dL_law_864 : decode cL_law 864 = .ok (.iload_n 3, 1) := by decide +kernel
theorem dL_law_865 : decode cL_law 865 = .ok (.iconst 1, 1) := by decide +kernel
theorem dL_law_866 : decode cL_law 866 = .ok (.iadd, 1) := by decide +kernel
theorem dL_law_867 : decode cL_law 867 = .ok (.iaload, 1) := by decide +kernel
theorem dL_law_868 : decode cL_law 868 = .ok (.invokevirtual 116, 3) := by decide +kernel
theorem dL_law_871 : decode cL_law 871 = .ok (.if_icmp .eq 5, 3) := by decide +kernel
theorem dL_law_874 : decode cL_law 874 = .ok (.iconst 0, 1) := by decide +kernel
theorem dL_law_875 : decode cL_law 875 = .ok (.ireturn, 1) := by decide +kernel
theorem dL_law_876 : decode cL_law 876 = .ok (.iinc 3 5, 3) := by decide +kernel
theorem dL_law_879 : decode cL_law 879 = .ok (.goto (-861), 3) := by decide +kernel
theorem dL_law_882 : decode cL_law 882 = .ok (.iconst 1, 1) := by decide +kernel
theorem dL_law_883 : decode cL_law 883 = .ok (.ireturn, 1) := by decide +kernel
