theorem dX5_set_1 : decode cX5_set 1 = .ok (.ifCond .lt 31, 3) := by decide +kernel
theorem dX5_set_4 : decode cX5_set 4 = .ok (.iload_n 1, 1) := by decide +kernel
theorem dX5_set_5 : decode cX5_set 5 = .ok (.aload_n 0, 1) := by decide +kernel
theorem dX5_set_6 : decode cX5_set 6 = .ok (.getfield 21, 3) := by decide +kernel
theorem dX5_set_9 : decode cX5_set 9 = .ok (.if_icmp .ge 23, 3) := by decide +kernel
theorem dX5_set_12 : decode cX5_set 12 = .ok (.iload_n 2, 1) := by decide +kernel
theorem dX5_set_13 : decode cX5_set 13 = .ok (.iconst 0, 1) := by decide +kernel
theorem dX5_set_14 : decode cX5_set 14 = .ok (.iconst 3, 1) := by decide +kernel
theorem dX5_set_15 : decode cX5_set 15 = .ok (.invokestatic 25, 3) := by decide +kernel
theorem dX5_set_18 : decode cX5_set 18 = .ok (.ifCond .eq 14, 3) := by decide +kernel
theorem dX5_set_21 : decode cX5_set 21 = .ok (.aload_n 0, 1) := by decide +kernel
theorem dX5_set_22 : decode cX5_set 22 = .ok (.getfield 15, 3) := by decide +kernel
theorem dX5_set_25 : decode cX5_set 25 = .ok (.iload_n 1, 1) := by decide +kernel
theorem dX5_set_26 : decode cX5_set 26 = .ok (.iconst 4, 1) := by decide +kernel
theorem dX5_set_27 : decode cX5_set 27 = .ok (.imul, 1) := by decide +kernel
theorem dX5_set_28 : decode cX5_set 28 = .ok (.iload_n 2, 1) := by decide +kernel
theorem dX5_set_29 : decode cX5_set 29 = .ok (.iadd, 1) := by decide +kernel
theorem dX5_set_30 : decode cX5_set 30 = .ok (.iload_n 3, 1) := by decide +kernel
theorem dX5_set_31 : decode cX5_set 31 = .ok (.iastore, 1) := by decide +kernel
theorem dX5_set_32 : decode cX5_set 32 = .ok (.return_, 1) := by decide +kernel
theorem dX5_drop_0 : decode cX5_drop 0 = .ok (.iload_n 1, 1) := by decide +kernel
theorem dX5_drop_1 : decode cX5_drop 1 = .ok (.ifCond .lt 11, 3) := by decide +kernel
theorem dX5_drop_4 : decode cX5_drop 4 = .ok (.iload_n 1, 1) := by decide +kernel
theorem dX5_drop_5 : decode cX5_drop 5 = .ok (.aload_n 0, 1) := by decide +kernel
theorem dX5_drop_6 : decode cX5_drop 6 = .ok (.getfield 21, 3) := by decide +kernel
theorem dX5_drop_9 : decode cX5_drop 9 = .ok (.if_icmp .lt 4, 3) := by decide +kernel
theorem dX5_drop_12 : decode cX5_drop 12 = .ok (.return_, 1) := by decide +kernel
theorem dX5_drop_13 : decode cX5_drop 13 = .ok (.iload_n 1, 1) := by decide +kernel
theorem dX5_drop_14 : decode cX5_drop 14 = .ok (.iconst 1, 1) := by decide +kernel
theorem dX5_drop_15 : decode cX5_drop 15 = .ok (.iadd, 1) := by decide +kernel
theorem dX5_drop_16 : decode cX5_drop 16 = .ok (.iconst 4, 1) := by decide +kernel
theorem dX5_drop_17 : decode cX5_drop 17 = .ok (.imul, 1) := by decide +kernel
theorem dX5_drop_18 : decode cX5_drop 18 = .ok (.istore_n 2, 1) := by decide +kernel
theorem dX5_drop_19 : decode cX5_drop 19 = .ok (.aload_n 0, 1) := by decide +kernel
theorem dX5_drop_20 : decode cX5_drop 20 = .ok (.getfield 15, 3) := by decide +kernel
theorem dX5_drop_23 : decode cX5_drop 23 = .ok (.iload_n 2, 1) := by decide +kernel
theorem dX5_drop_24 : decode cX5_drop 24 = .ok (.aload_n 0, 1) := by decide +kernel
theorem dX5_drop_25 : decode cX5_drop 25 = .ok (.getfield 15, 3) := by decide +kernel
theorem dX5_drop_28 : decode cX5_drop 28 = .ok (.iload_n 1, 1) := by decide +kernel
theorem dX5_drop_29 : decode cX5_drop 29 = .ok (.iconst 4, 1) := by decide +kernel
theorem dX5_drop_30 : decode cX5_drop 30 = .ok (.imul, 1) := by decide +kernel
theorem dX5_drop_31 : decode cX5_drop 31 = .ok (.aload_n 0, 1) := by decide +kernel
theorem dX5_drop_32 : decode cX5_drop 32 = .ok (.getfield 21, 3) := by decide +kernel
theorem dX5_drop_35 : decode cX5_drop 35 = .ok (.iconst 4, 1) := by decide +kernel
theorem dX5_drop_36 : decode cX5_drop 36 = .ok (.imul, 1) := by decide +kernel
theorem dX5_drop_37 : decode cX5_drop 37 = .ok (.iload_n 2, 1) := by decide +kernel
theorem dX5_drop_38 : decode cX5_drop 38 = .ok (.isub, 1) := by decide +kernel
theorem dX5_drop_39 : decode cX5_drop 39 = .ok (.invokestatic 30, 3) := by decide +kernel
theorem dX5_drop_42 : decode cX5_drop 42 = .ok (.aload_n 0, 1) := by decide +kernel
theorem dX5_drop_43 : decode cX5_drop 43 = .ok (.dup, 1) := by decide +kernel
theorem dX5_drop_44 : decode cX5_drop 44 = .ok (.getfield 21, 3) := by decide +kernel
theorem dX5_drop_47 : decode cX5_drop 47 = .ok (.iconst 1, 1) := by decide +kernel
theorem dX5_drop_48 : decode cX5_drop 48 = .ok (.isub, 1) := by decide +kernel
theorem dX5_drop_49 : decode cX5_drop 49 = .ok (.putfield 21, 3) := by decide +kernel
theorem dX5_drop_52 : decode cX5_drop 52 = .ok (.return_, 1) := by decide +kernel
theorem dX5_copyFrom_0 : decode cX5_copyFrom 0 = .ok (.aload_n 1, 1) := by decide +kernel
theorem dX5_copyFrom_1 : decode cX5_copyFrom 1 = .ok (.getfield 15, 3) := by decide +kernel
theorem dX5_copyFrom_4 : decode cX5_copyFrom 4 = .ok (.arraylength, 1) := by decide +kernel
theorem dX5_copyFrom_5 : decode cX5_copyFrom 5 = .ok (.aload_n 0, 1) := by decide +kernel
theorem dX5_copyFrom_6 : decode cX5_copyFrom 6 = .ok (.getfield 15, 3) := by decide +kernel
theorem dX5_copyFrom_9 : decode cX5_copyFrom 9 = .ok (.arraylength, 1) := by decide +kernel
theorem dX5_copyFrom_10 : decode cX5_copyFrom 10 = .ok (.if_icmp .ne 29, 3) := by decide +kernel
theorem dX5_copyFrom_13 : decode cX5_copyFrom 13 = .ok (.aload_n 1, 1) := by decide +kernel
theorem dX5_copyFrom_14 : decode cX5_copyFrom 14 = .ok (.getfield 15, 3) := by decide +kernel
theorem dX5_copyFrom_17 : decode cX5_copyFrom 17 = .ok (.iconst 0, 1) := by decide +kernel
theorem dX5_copyFrom_18 : decode cX5_copyFrom 18 = .ok (.aload_n 0, 1) := by decide +kernel
theorem dX5_copyFrom_19 : decode cX5_copyFrom 19 = .ok (.getfield 15, 3) := by decide +kernel
theorem dX5_copyFrom_22 : decode cX5_copyFrom 22 = .ok (.iconst 0, 1) := by decide +kernel
theorem dX5_copyFrom_23 : decode cX5_copyFrom 23 = .ok (.aload_n 0, 1) := by decide +kernel
theorem dX5_copyFrom_24 : decode cX5_copyFrom 24 = .ok (.getfield 15, 3) := by decide +kernel
theorem dX5_copyFrom_27 : decode cX5_copyFrom 27 = .ok (.arraylength, 1) := by decide +kernel
theorem dX5_copyFrom_28 : decode cX5_copyFrom 28 = .ok (.invokestatic 30, 3) := by decide +kernel
theorem dX5_copyFrom_31 : decode cX5_copyFrom 31 = .ok (.aload_n 0, 1) := by decide +kernel
theorem dX5_copyFrom_32 : decode cX5_copyFrom 32 = .ok (.aload_n 1, 1) := by decide +kernel
theorem dX5_copyFrom_33 : decode cX5_copyFrom 33 = .ok (.getfield 21, 3) := by decide +kernel
theorem dX5_copyFrom_36 : decode cX5_copyFrom 36 = .ok (.putfield 21, 3) := by decide +kernel
theorem dX5_copyFrom_39 : decode cX5_copyFrom 39 = .ok (.return_, 1) := by decide +kernel
theorem dX6_init_0 : decode cX6_init 0 = .ok (.aload_n 0, 1) := by decide +kernel
theorem dX6_init_1 : decode cX6_init 1 = .ok (.invokespecial 3, 3) := by decide +kernel
theorem dX6_init_4 : decode cX6_init 4 = .ok (.aload_n 0, 1) := by decide +kernel
theorem dX6_init_5 : decode cX6_init 5 = .ok (.bipush 8, 2) := by decide +kernel
theorem dX6_init_7 : decode cX6_init 7 = .ok (.anewarray 9, 3) := by decide +kernel
theorem dX6_init_10 : decode cX6_init 10 = .ok (.putfield 11, 3) := by decide +kernel
theorem dX6_init_13 : decode cX6_init 13 = .ok (.aload_n 0, 1) := by decide +kernel
theorem dX6_init_14 : decode cX6_init 14 = .ok (.new 17, 3) := by decide +kernel
theorem dX6_init_17 : decode cX6_init 17 = .ok (.dup, 1) := by decide +kernel
theorem dX6_init_18 : decode cX6_init 18 = .ok (.bipush 20, 2) := by decide +kernel
theorem dX6_init_20 : decode cX6_init 20 = .ok (.invokespecial 19, 3) := by decide +kernel
theorem dX6_init_23 : decode cX6_init 23 = .ok (.putfield 22, 3) := by decide +kernel
theorem dX6_init_26 : decode cX6_init 26 = .ok (.aload_n 0, 1) := by decide +kernel
theorem dX6_init_27 : decode cX6_init 27 = .ok (.new 17, 3) := by decide +kernel
theorem dX6_init_30 : decode cX6_init 30 = .ok (.dup, 1) := by decide +kernel
theorem dX6_init_31 : decode cX6_init 31 = .ok (.bipush 12, 2) := by decide +kernel
theorem dX6_init_33 : decode cX6_init 33 = .ok (.invokespecial 19, 3) := by decide +kernel
theorem dX6_init_36 : decode cX6_init 36 = .ok (.putfield 26, 3) := by decide +kernel
theorem dX6_init_39 : decode cX6_init 39 = .ok (.aload_n 0, 1) := by decide +kernel
theorem dX6_init_40 : decode cX6_init 40 = .ok (.bipush 100, 2) := by decide +kernel
theorem dX6_init_42 : decode cX6_init 42 = .ok (.putfield 29, 3) := by decide +kernel
theorem dX6_init_45 : decode cX6_init 45 = .ok (.iconst 0, 1) := by decide +kernel
theorem dX6_init_46 : decode cX6_init 46 = .ok (.istore_n 1, 1) := by decide +kernel
theorem dX6_init_47 : decode cX6_init 47 = .ok (.iload_n 1, 1) := by decide +kernel
theorem dX6_init_48 : decode cX6_init 48 = .ok (.bipush 8, 2) := by decide +kernel
theorem dX6_init_50 : decode cX6_init 50 = .ok (.if_icmp .ge 22, 3) := by decide +kernel
theorem dX6_init_53 : decode cX6_init 53 = .ok (.aload_n 0, 1) := by decide +kernel
theorem dX6_init_54 : decode cX6_init 54 = .ok (.getfield 11, 3) := by decide +kernel
theorem dX6_init_57 : decode cX6_init 57 = .ok (.iload_n 1, 1) := by decide +kernel
theorem dX6_init_58 : decode cX6_init 58 = .ok (.new 9, 3) := by decide +kernel
theorem dX6_init_61 : decode cX6_init 61 = .ok (.dup, 1) := by decide +kernel
theorem dX6_init_62 : decode cX6_init 62 = .ok (.invokespecial 33, 3) := by decide +kernel
theorem dX6_init_65 : decode cX6_init 65 = .ok (.aastore, 1) := by decide +kernel
theorem dX6_init_66 : decode cX6_init 66 = .ok (.iinc 1 1, 3) := by decide +kernel
theorem dX6_init_69 : decode cX6_init 69 = .ok (.goto (-22), 3) := by decide +kernel
theorem dX6_init_72 : decode cX6_init 72 = .ok (.return_, 1) := by decide +kernel
theorem dX6_copyFrom_0 : decode cX6_copyFrom 0 = .ok (.iconst 0, 1) := by decide +kernel
theorem dX6_copyFrom_1 : decode cX6_copyFrom 1 = .ok (.istore_n 2, 1) := by decide +kernel
theorem dX6_copyFrom_2 : decode cX6_copyFrom 2 = .ok (.iload_n 2, 1) := by decide +kernel
theorem dX6_copyFrom_3 : decode cX6_copyFrom 3 = .ok (.bipush 8, 2) := by decide +kernel
theorem dX6_copyFrom_5 : decode cX6_copyFrom 5 = .ok (.if_icmp .ge 24, 3) := by decide +kernel
theorem dX6_copyFrom_8 : decode cX6_copyFrom 8 = .ok (.aload_n 0, 1) := by decide +kernel
theorem dX6_copyFrom_9 : decode cX6_copyFrom 9 = .ok (.getfield 11, 3) := by decide +kernel
theorem dX6_copyFrom_12 : decode cX6_copyFrom 12 = .ok (.iload_n 2, 1) := by decide +kernel
theorem dX6_copyFrom_13 : decode cX6_copyFrom 13 = .ok (.aaload, 1) := by decide +kernel
theorem dX6_copyFrom_14 : decode cX6_copyFrom 14 = .ok (.aload_n 1, 1) := by decide +kernel
theorem dX6_copyFrom_15 : decode cX6_copyFrom 15 = .ok (.getfield 11, 3) := by decide +kernel
theorem dX6_copyFrom_18 : decode cX6_copyFrom 18 = .ok (.iload_n 2, 1) := by decide +kernel
theorem dX6_copyFrom_19 : decode cX6_copyFrom 19 = .ok (.aaload, 1) := by decide +kernel
theorem dX6_copyFrom_20 : decode cX6_copyFrom 20 = .ok (.invokevirtual 34, 3) := by decide +kernel
theorem dX6_copyFrom_23 : decode cX6_copyFrom 23 = .ok (.iinc 2 1, 3) := by decide +kernel
theorem dX6_copyFrom_26 : decode cX6_copyFrom 26 = .ok (.goto (-24), 3) := by decide +kernel
theorem dX6_copyFrom_29 : decode cX6_copyFrom 29 = .ok (.aload_n 0, 1) := by decide +kernel
theorem dX6_copyFrom_30 : decode cX6_copyFrom 30 = .ok (.getfield 22, 3) := by decide +kernel
theorem dX6_copyFrom_33 : decode cX6_copyFrom 33 = .ok (.aload_n 1, 1) := by decide +kernel
theorem dX6_copyFrom_34 : decode cX6_copyFrom 34 = .ok (.getfield 22, 3) := by decide +kernel
theorem dX6_copyFrom_37 : decode cX6_copyFrom 37 = .ok (.invokevirtual 38, 3) := by decide +kernel
theorem dX6_copyFrom_40 : decode cX6_copyFrom 40 = .ok (.aload_n 0, 1) := by decide +kernel
theorem dX6_copyFrom_41 : decode cX6_copyFrom 41 = .ok (.getfield 26, 3) := by decide +kernel
theorem dX6_copyFrom_44 : decode cX6_copyFrom 44 = .ok (.aload_n 1, 1) := by decide +kernel
theorem dX6_copyFrom_45 : decode cX6_copyFrom 45 = .ok (.getfield 26, 3) := by decide +kernel
theorem dX6_copyFrom_48 : decode cX6_copyFrom 48 = .ok (.invokevirtual 38, 3) := by decide +kernel
theorem dX6_copyFrom_51 : decode cX6_copyFrom 51 = .ok (.aload_n 0, 1) := by decide +kernel
theorem dX6_copyFrom_52 : decode cX6_copyFrom 52 = .ok (.aload_n 1, 1) := by decide +kernel
theorem dX6_copyFrom_53 : decode cX6_copyFrom 53 = .ok (.getfield 41, 3) := by decide +kernel
theorem dX6_copyFrom_56 : decode cX6_copyFrom 56 = .ok (.putfield 41, 3) := by decide +kernel
theorem dX6_copyFrom_59 : decode cX6_copyFrom 59 = .ok (.aload_n 0, 1) := by decide +kernel
theorem dX6_copyFrom_60 : decode cX6_copyFrom 60 = .ok (.aload_n 1, 1) := by decide +kernel
theorem dX6_copyFrom_61 : decode cX6_copyFrom 61 = .ok (.getfield 29, 3) := by decide +kernel
theorem dX6_copyFrom_64 : decode cX6_copyFrom 64 = .ok (.putfield 29, 3) := by decide +kernel
theorem dX6_copyFrom_67 : decode cX6_copyFrom 67 = .ok (.aload_n 0, 1) := by decide +kernel
theorem dX6_copyFrom_68 : decode cX6_copyFrom 68 = .ok (.aload_n 1, 1) := by decide +kernel
theorem dX6_copyFrom_69 : decode cX6_copyFrom 69 = .ok (.getfield 44, 3) := by decide +kernel
theorem dX6_copyFrom_72 : decode cX6_copyFrom 72 = .ok (.putfield 44, 3) := by decide +kernel
theorem dX6_copyFrom_75 : decode cX6_copyFrom 75 = .ok (.aload_n 0, 1) := by decide +kernel
theorem dX6_copyFrom_76 : decode cX6_copyFrom 76 = .ok (.aload_n 1, 1) := by decide +kernel
theorem dX6_copyFrom_77 : decode cX6_copyFrom 77 = .ok (.getfield 47, 3) := by decide +kernel
theorem dX6_copyFrom_80 : decode cX6_copyFrom 80 = .ok (.putfield 47, 3) := by decide +kernel
theorem dX6_copyFrom_83 : decode cX6_copyFrom 83 = .ok (.aload_n 0, 1) := by decide +kernel
theorem dX6_copyFrom_84 : decode cX6_copyFrom 84 = .ok (.aload_n 1, 1) := by decide +kernel
theorem dX6_copyFrom_85 : decode cX6_copyFrom 85 = .ok (.getfield 50, 3) := by decide +kernel
theorem dX6_copyFrom_88 : decode cX6_copyFrom 88 = .ok (.putfield 50, 3) := by decide +kernel
theorem dX6_copyFrom_91 : decode cX6_copyFrom 91 = .ok (.aload_n 0, 1) := by decide +kernel
theorem dX6_copyFrom_92 : decode cX6_copyFrom 92 = .ok (.aload_n 1, 1) := by decide +kernel
theorem dX6_copyFrom_93 : decode cX6_copyFrom 93 = .ok (.getfield 53, 3) := by decide +kernel
theorem dX6_copyFrom_96 : decode cX6_copyFrom 96 = .ok (.putfield 53, 3) := by decide +kernel
theorem dX6_copyFrom_99 : decode cX6_copyFrom 99 = .ok (.aload_n 0, 1) := by decide +kernel
theorem dX6_copyFrom_100 : decode cX6_copyFrom 100 = .ok (.aload_n 1, 1) := by decide +kernel
theorem dX6_copyFrom_101 : decode cX6_copyFrom 101 = .ok (.getfield 56, 3) := by decide +kernel
theorem dX6_copyFrom_104 : decode cX6_copyFrom 104 = .ok (.putfield 56, 3) := by decide +kernel
theorem dX6_copyFrom_107 : decode cX6_copyFrom 107 = .ok (.return_, 1) := by decide +kernel
theorem dX6_find_0 : decode cX6_find 0 = .ok (.iload_n 1, 1) := by decide +kernel
theorem dX6_find_1 : decode cX6_find 1 = .ok (.ifCond .lt 20, 3) := by decide +kernel
theorem dX6_find_4 : decode cX6_find 4 = .ok (.iload_n 1, 1) := by decide +kernel
theorem dX6_find_5 : decode cX6_find 5 = .ok (.aload_n 0, 1) := by decide +kernel
theorem dX6_find_6 : decode cX6_find 6 = .ok (.getfield 41, 3) := by decide +kernel
theorem dX6_find_9 : decode cX6_find 9 = .ok (.if_icmp .ge 12, 3) := by decide +kernel
theorem dX6_find_12 : decode cX6_find 12 = .ok (.iload_n 1, 1) := by decide +kernel
theorem dX6_find_13 : decode cX6_find 13 = .ok (.aload_n 0, 1) := by decide +kernel
theorem dX6_find_14 : decode cX6_find 14 = .ok (.getfield 11, 3) := by decide +kernel
theorem dX6_find_17 : decode cX6_find 17 = .ok (.arraylength, 1) := by decide +kernel
theorem dX6_find_18 : decode cX6_find 18 = .ok (.if_icmp .lt 5, 3) := by decide +kernel
theorem dX6_find_21 : decode cX6_find 21 = .ok (.aconst_null, 1) := by decide +kernel
theorem dX6_find_22 : decode cX6_find 22 = .ok (.areturn, 1) := by decide +kernel
theorem dX6_find_23 : decode cX6_find 23 = .ok (.aload_n 0, 1) := by decide +kernel
theorem dX6_find_24 : decode cX6_find 24 = .ok (.getfield 11, 3) := by decide +kernel
theorem dX6_find_27 : decode cX6_find 27 = .ok (.iload_n 1, 1) := by decide +kernel
theorem dX6_find_28 : decode cX6_find 28 = .ok (.aaload, 1) := by decide +kernel
theorem dX6_find_29 : decode cX6_find 29 = .ok (.areturn, 1) := by decide +kernel
theorem dX6_placeOf_0 : decode cX6_placeOf 0 = .ok (.aload_n 0, 1) := by decide +kernel
theorem dX6_placeOf_1 : decode cX6_placeOf 1 = .ok (.iload_n 1, 1) := by decide +kernel
theorem dX6_placeOf_2 : decode cX6_placeOf 2 = .ok (.invokevirtual 59, 3) := by decide +kernel
theorem dX6_placeOf_5 : decode cX6_placeOf 5 = .ok (.astore_n 2, 1) := by decide +kernel
theorem dX6_placeOf_6 : decode cX6_placeOf 6 = .ok (.aload_n 2, 1) := by decide +kernel
theorem dX6_placeOf_7 : decode cX6_placeOf 7 = .ok (.ifnonnull 7, 3) := by decide +kernel
theorem dX6_placeOf_10 : decode cX6_placeOf 10 = .ok (.iconst 0, 1) := by decide +kernel
theorem dX6_placeOf_11 : decode cX6_placeOf 11 = .ok (.goto 7, 3) := by decide +kernel
theorem dX6_placeOf_14 : decode cX6_placeOf 14 = .ok (.aload_n 2, 1) := by decide +kernel
theorem dX6_placeOf_15 : decode cX6_placeOf 15 = .ok (.getfield 63, 3) := by decide +kernel
theorem dX6_placeOf_18 : decode cX6_placeOf 18 = .ok (.ireturn, 1) := by decide +kernel
theorem dX6_hasRosetteAt_0 : decode cX6_hasRosetteAt 0 = .ok (.iconst 0, 1) := by decide +kernel
theorem dX6_hasRosetteAt_1 : decode cX6_hasRosetteAt 1 = .ok (.istore_n 2, 1) := by decide +kernel
theorem dX6_hasRosetteAt_2 : decode cX6_hasRosetteAt 2 = .ok (.iload_n 2, 1) := by decide +kernel
theorem dX6_hasRosetteAt_3 : decode cX6_hasRosetteAt 3 = .ok (.aload_n 0, 1) := by decide +kernel
theorem dX6_hasRosetteAt_4 : decode cX6_hasRosetteAt 4 = .ok (.getfield 41, 3) := by decide +kernel
theorem dX6_hasRosetteAt_7 : decode cX6_hasRosetteAt 7 = .ok (.if_icmp .ge 20, 3) := by decide +kernel
theorem dX6_hasRosetteAt_10 : decode cX6_hasRosetteAt 10 = .ok (.aload_n 0, 1) := by decide +kernel
theorem dX6_hasRosetteAt_11 : decode cX6_hasRosetteAt 11 = .ok (.iload_n 2, 1) := by decide +kernel
theorem dX6_hasRosetteAt_12 : decode cX6_hasRosetteAt 12 = .ok (.invokevirtual 64, 3) := by decide +kernel
theorem dX6_hasRosetteAt_15 : decode cX6_hasRosetteAt 15 = .ok (.iload_n 1, 1) := by decide +kernel
theorem dX6_hasRosetteAt_16 : decode cX6_hasRosetteAt 16 = .ok (.if_icmp .ne 5, 3) := by decide +kernel
theorem dX6_hasRosetteAt_19 : decode cX6_hasRosetteAt 19 = .ok (.iconst 1, 1) := by decide +kernel
theorem dX6_hasRosetteAt_20 : decode cX6_hasRosetteAt 20 = .ok (.ireturn, 1) := by decide +kernel
theorem dX6_hasRosetteAt_21 : decode cX6_hasRosetteAt 21 = .ok (.iinc 2 1, 3) := by decide +kernel
theorem dX6_hasRosetteAt_24 : decode cX6_hasRosetteAt 24 = .ok (.goto (-22), 3) := by decide +kernel
theorem dX6_hasRosetteAt_27 : decode cX6_hasRosetteAt 27 = .ok (.iconst 0, 1) := by decide +kernel
theorem dX6_hasRosetteAt_28 : decode cX6_hasRosetteAt 28 = .ok (.ireturn, 1) := by decide +kernel
theorem dX6_addJob_0 : decode cX6_addJob 0 = .ok (.aload_n 0, 1) := by decide +kernel
theorem dX6_addJob_1 : decode cX6_addJob 1 = .ok (.getfield 50, 3) := by decide +kernel
theorem dX6_addJob_4 : decode cX6_addJob 4 = .ok (.istore 4, 2) := by decide +kernel
theorem dX6_addJob_6 : decode cX6_addJob 6 = .ok (.aload_n 0, 1) := by decide +kernel
theorem dX6_addJob_7 : decode cX6_addJob 7 = .ok (.getfield 22, 3) := by decide +kernel
theorem dX6_addJob_10 : decode cX6_addJob 10 = .ok (.iload 4, 2) := by decide +kernel
theorem dX6_addJob_12 : decode cX6_addJob 12 = .ok (.iload_n 1, 1) := by decide +kernel
theorem dX6_addJob_13 : decode cX6_addJob 13 = .ok (.iload_n 2, 1) := by decide +kernel
theorem dX6_addJob_14 : decode cX6_addJob 14 = .ok (.iload_n 3, 1) := by decide +kernel
theorem dX6_addJob_15 : decode cX6_addJob 15 = .ok (.invokevirtual 68, 3) := by decide +kernel
theorem dX6_addJob_18 : decode cX6_addJob 18 = .ok (.aload_n 0, 1) := by decide +kernel
theorem dX6_addJob_19 : decode cX6_addJob 19 = .ok (.dup, 1) := by decide +kernel
theorem dX6_addJob_20 : decode cX6_addJob 20 = .ok (.getfield 50, 3) := by decide +kernel
theorem dX6_addJob_23 : decode cX6_addJob 23 = .ok (.iconst 1, 1) := by decide +kernel
theorem dX6_addJob_24 : decode cX6_addJob 24 = .ok (.iadd, 1) := by decide +kernel
theorem dX6_addJob_25 : decode cX6_addJob 25 = .ok (.putfield 50, 3) := by decide +kernel
theorem dX6_addJob_28 : decode cX6_addJob 28 = .ok (.iload 4, 2) := by decide +kernel
theorem dX6_addJob_30 : decode cX6_addJob 30 = .ok (.ireturn, 1) := by decide +kernel
theorem dX6_jobsFor_0 : decode cX6_jobsFor 0 = .ok (.iconst 0, 1) := by decide +kernel
theorem dX6_jobsFor_1 : decode cX6_jobsFor 1 = .ok (.istore_n 2, 1) := by decide +kernel
theorem dX6_jobsFor_2 : decode cX6_jobsFor 2 = .ok (.iconst 0, 1) := by decide +kernel
theorem dX6_jobsFor_3 : decode cX6_jobsFor 3 = .ok (.istore_n 3, 1) := by decide +kernel
theorem dX6_jobsFor_4 : decode cX6_jobsFor 4 = .ok (.iload_n 3, 1) := by decide +kernel
theorem dX6_jobsFor_5 : decode cX6_jobsFor 5 = .ok (.aload_n 0, 1) := by decide +kernel
theorem dX6_jobsFor_6 : decode cX6_jobsFor 6 = .ok (.getfield 22, 3) := by decide +kernel
theorem dX6_jobsFor_9 : decode cX6_jobsFor 9 = .ok (.getfield 72, 3) := by decide +kernel
theorem dX6_jobsFor_12 : decode cX6_jobsFor 12 = .ok (.if_icmp .ge 25, 3) := by decide +kernel
theorem dX6_jobsFor_15 : decode cX6_jobsFor 15 = .ok (.aload_n 0, 1) := by decide +kernel
theorem dX6_jobsFor_16 : decode cX6_jobsFor 16 = .ok (.getfield 22, 3) := by decide +kernel
theorem dX6_jobsFor_19 : decode cX6_jobsFor 19 = .ok (.iload_n 3, 1) := by decide +kernel
theorem dX6_jobsFor_20 : decode cX6_jobsFor 20 = .ok (.iconst 2, 1) := by decide +kernel
theorem dX6_jobsFor_21 : decode cX6_jobsFor 21 = .ok (.invokevirtual 75, 3) := by decide +kernel
theorem dX6_jobsFor_24 : decode cX6_jobsFor 24 = .ok (.iload_n 1, 1) := by decide +kernel
theorem dX6_jobsFor_25 : decode cX6_jobsFor 25 = .ok (.if_icmp .ne 6, 3) := by decide +kernel
theorem dX6_jobsFor_28 : decode cX6_jobsFor 28 = .ok (.iinc 2 1, 3) := by decide +kernel
theorem dX6_jobsFor_31 : decode cX6_jobsFor 31 = .ok (.iinc 3 1, 3) := by decide +kernel
theorem dX6_jobsFor_34 : decode cX6_jobsFor 34 = .ok (.goto (-30), 3) := by decide +kernel
theorem dX6_jobsFor_37 : decode cX6_jobsFor 37 = .ok (.iload_n 2, 1) := by decide +kernel
theorem dX6_jobsFor_38 : decode cX6_jobsFor 38 = .ok (.ireturn, 1) := by decide +kernel
theorem dX6_dropJobsFor_0 : decode cX6_dropJobsFor 0 = .ok (.aload_n 0, 1) := by decide +kernel
theorem dX6_dropJobsFor_1 : decode cX6_dropJobsFor 1 = .ok (.getfield 22, 3) := by decide +kernel
theorem dX6_dropJobsFor_4 : decode cX6_dropJobsFor 4 = .ok (.getfield 72, 3) := by decide +kernel
theorem dX6_dropJobsFor_7 : decode cX6_dropJobsFor 7 = .ok (.iconst 1, 1) := by decide +kernel
theorem dX6_dropJobsFor_8 : decode cX6_dropJobsFor 8 = .ok (.isub, 1) := by decide +kernel
theorem dX6_dropJobsFor_9 : decode cX6_dropJobsFor 9 = .ok (.istore_n 2, 1) := by decide +kernel
theorem dX6_dropJobsFor_10 : decode cX6_dropJobsFor 10 = .ok (.iload_n 2, 1) := by decide +kernel
theorem dX6_dropJobsFor_11 : decode cX6_dropJobsFor 11 = .ok (.ifCond .lt 30, 3) := by decide +kernel
theorem dX6_dropJobsFor_14 : decode cX6_dropJobsFor 14 = .ok (.aload_n 0, 1) := by decide +kernel
theorem dX6_dropJobsFor_15 : decode cX6_dropJobsFor 15 = .ok (.getfield 22, 3) := by decide +kernel
theorem dX6_dropJobsFor_18 : decode cX6_dropJobsFor 18 = .ok (.iload_n 2, 1) := by decide +kernel
theorem dX6_dropJobsFor_19 : decode cX6_dropJobsFor 19 = .ok (.iconst 2, 1) := by decide +kernel
theorem dX6_dropJobsFor_20 : decode cX6_dropJobsFor 20 = .ok (.invokevirtual 75, 3) := by decide +kernel
theorem dX6_dropJobsFor_23 : decode cX6_dropJobsFor 23 = .ok (.iload_n 1, 1) := by decide +kernel
theorem dX6_dropJobsFor_24 : decode cX6_dropJobsFor 24 = .ok (.if_icmp .ne 11, 3) := by decide +kernel
theorem dX6_dropJobsFor_27 : decode cX6_dropJobsFor 27 = .ok (.aload_n 0, 1) := by decide +kernel
theorem dX6_dropJobsFor_28 : decode cX6_dropJobsFor 28 = .ok (.getfield 22, 3) := by decide +kernel
theorem dX6_dropJobsFor_31 : decode cX6_dropJobsFor 31 = .ok (.iload_n 2, 1) := by decide +kernel
theorem dX6_dropJobsFor_32 : decode cX6_dropJobsFor 32 = .ok (.invokevirtual 79, 3) := by decide +kernel
theorem dX6_dropJobsFor_35 : decode cX6_dropJobsFor 35 = .ok (.iinc 2 (-1), 3) := by decide +kernel
theorem dX6_dropJobsFor_38 : decode cX6_dropJobsFor 38 = .ok (.goto (-28), 3) := by decide +kernel
theorem dX6_dropJobsFor_41 : decode cX6_dropJobsFor 41 = .ok (.return_, 1) := by decide +kernel
theorem dX6_goTo_0 : decode cX6_goTo 0 = .ok (.aload_n 0, 1) := by decide +kernel
theorem dX6_goTo_1 : decode cX6_goTo 1 = .ok (.dup, 1) := by decide +kernel
theorem dX6_goTo_2 : decode cX6_goTo 2 = .ok (.getfield 47, 3) := by decide +kernel
theorem dX6_goTo_5 : decode cX6_goTo 5 = .ok (.iload_n 1, 1) := by decide +kernel
theorem dX6_goTo_6 : decode cX6_goTo 6 = .ok (.aload_n 0, 1) := by decide +kernel
theorem dX6_goTo_7 : decode cX6_goTo 7 = .ok (.getfield 44, 3) := by decide +kernel
theorem dX6_goTo_10 : decode cX6_goTo 10 = .ok (.isub, 1) := by decide +kernel
theorem dX6_goTo_11 : decode cX6_goTo 11 = .ok (.invokestatic 82, 3) := by decide +kernel
theorem dX6_goTo_14 : decode cX6_goTo 14 = .ok (.iadd, 1) := by decide +kernel
theorem dX6_goTo_15 : decode cX6_goTo 15 = .ok (.putfield 47, 3) := by decide +kernel
theorem dX6_goTo_18 : decode cX6_goTo 18 = .ok (.aload_n 0, 1) := by decide +kernel
theorem dX6_goTo_19 : decode cX6_goTo 19 = .ok (.iload_n 1, 1) := by decide +kernel
theorem dX6_goTo_20 : decode cX6_goTo 20 = .ok (.putfield 44, 3) := by decide +kernel
theorem dX6_goTo_23 : decode cX6_goTo 23 = .ok (.return_, 1) := by decide +kernel
theorem dX6_leaveRecord_0 : decode cX6_leaveRecord 0 = .ok (.aload_n 0, 1) := by decide +kernel
theorem dX6_leaveRecord_1 : decode cX6_leaveRecord 1 = .ok (.getfield 26, 3) := by decide +kernel
theorem dX6_leaveRecord_4 : decode cX6_leaveRecord 4 = .ok (.getfield 72, 3) := by decide +kernel
theorem dX6_leaveRecord_7 : decode cX6_leaveRecord 7 = .ok (.bipush 12, 2) := by decide +kernel
theorem dX6_leaveRecord_9 : decode cX6_leaveRecord 9 = .ok (.if_icmp .lt 11, 3) := by decide +kernel
theorem dX6_leaveRecord_12 : decode cX6_leaveRecord 12 = .ok (.aload_n 0, 1) := by decide +kernel
theorem dX6_leaveRecord_13 : decode cX6_leaveRecord 13 = .ok (.getfield 26, 3) := by decide +kernel
theorem dX6_leaveRecord_16 : decode cX6_leaveRecord 16 = .ok (.iconst 0, 1) := by decide +kernel
theorem dX6_leaveRecord_17 : decode cX6_leaveRecord 17 = .ok (.invokevirtual 79, 3) := by decide +kernel
theorem dX6_leaveRecord_20 : decode cX6_leaveRecord 20 = .ok (.aload_n 0, 1) := by decide +kernel
theorem dX6_leaveRecord_21 : decode cX6_leaveRecord 21 = .ok (.getfield 26, 3) := by decide +kernel
theorem dX6_leaveRecord_24 : decode cX6_leaveRecord 24 = .ok (.iload_n 1, 1) := by decide +kernel
theorem dX6_leaveRecord_25 : decode cX6_leaveRecord 25 = .ok (.iload_n 2, 1) := by decide +kernel
theorem dX6_leaveRecord_26 : decode cX6_leaveRecord 26 = .ok (.iload_n 3, 1) := by decide +kernel
theorem dX6_leaveRecord_27 : decode cX6_leaveRecord 27 = .ok (.iload 4, 2) := by decide +kernel
theorem dX6_leaveRecord_29 : decode cX6_leaveRecord 29 = .ok (.invokevirtual 68, 3) := by decide +kernel
theorem dX6_leaveRecord_32 : decode cX6_leaveRecord 32 = .ok (.return_, 1) := by decide +kernel
theorem dX7_init_0 : decode cX7_init 0 = .ok (.aload_n 0, 1) := by decide +kernel
theorem dX7_init_1 : decode cX7_init 1 = .ok (.invokespecial 1, 3) := by decide +kernel
theorem dX7_init_4 : decode cX7_init 4 = .ok (.aload_n 0, 1) := by decide +kernel
theorem dX7_init_5 : decode cX7_init 5 = .ok (.new 7, 3) := by decide +kernel
theorem dX7_init_8 : decode cX7_init 8 = .ok (.dup, 1) := by decide +kernel
theorem dX7_init_9 : decode cX7_init 9 = .ok (.invokespecial 9, 3) := by decide +kernel
theorem dX7_init_12 : decode cX7_init 12 = .ok (.putfield 10, 3) := by decide +kernel
theorem dX7_init_15 : decode cX7_init 15 = .ok (.aload_n 0, 1) := by decide +kernel
theorem dX7_init_16 : decode cX7_init 16 = .ok (.new 7, 3) := by decide +kernel
theorem dX7_init_19 : decode cX7_init 19 = .ok (.dup, 1) := by decide +kernel
theorem dX7_init_20 : decode cX7_init 20 = .ok (.invokespecial 9, 3) := by decide +kernel
theorem dX7_init_23 : decode cX7_init 23 = .ok (.putfield 16, 3) := by decide +kernel
theorem dX7_init_26 : decode cX7_init 26 = .ok (.aload_n 0, 1) := by decide +kernel
theorem dX7_init_27 : decode cX7_init 27 = .ok (.new 19, 3) := by decide +kernel
theorem dX7_init_30 : decode cX7_init 30 = .ok (.dup, 1) := by decide +kernel
theorem dX7_init_31 : decode cX7_init 31 = .ok (.invokespecial 21, 3) := by decide +kernel
theorem dX7_init_34 : decode cX7_init 34 = .ok (.putfield 22, 3) := by decide +kernel
theorem dX7_init_37 : decode cX7_init 37 = .ok (.aload_n 0, 1) := by decide +kernel
theorem dX7_init_38 : decode cX7_init 38 = .ok (.new 26, 3) := by decide +kernel
theorem dX7_init_41 : decode cX7_init 41 = .ok (.dup, 1) := by decide +kernel
theorem dX7_init_42 : decode cX7_init 42 = .ok (.invokespecial 28, 3) := by decide +kernel
theorem dX7_init_45 : decode cX7_init 45 = .ok (.putfield 29, 3) := by decide +kernel
theorem dX7_init_48 : decode cX7_init 48 = .ok (.aload_n 0, 1) := by decide +kernel
theorem dX7_init_49 : decode cX7_init 49 = .ok (.new 33, 3) := by decide +kernel
theorem dX7_init_52 : decode cX7_init 52 = .ok (.dup, 1) := by decide +kernel
theorem dX7_init_53 : decode cX7_init 53 = .ok (.invokespecial 35, 3) := by decide +kernel
theorem dX7_init_56 : decode cX7_init 56 = .ok (.putfield 36, 3) := by decide +kernel
theorem dX7_init_59 : decode cX7_init 59 = .ok (.aload_n 0, 1) := by decide +kernel
theorem dX7_init_60 : decode cX7_init 60 = .ok (.new 40, 3) := by decide +kernel
theorem dX7_init_63 : decode cX7_init 63 = .ok (.dup, 1) := by decide +kernel
theorem dX7_init_64 : decode cX7_init 64 = .ok (.invokespecial 42, 3) := by decide +kernel
theorem dX7_init_67 : decode cX7_init 67 = .ok (.putfield 43, 3) := by decide +kernel
theorem dX7_init_70 : decode cX7_init 70 = .ok (.return_, 1) := by decide +kernel
theorem dX7_addRosette_0 : decode cX7_addRosette 0 = .ok (.iload_n 3, 1) := by decide +kernel
theorem dX7_addRosette_1 : decode cX7_addRosette 1 = .ok (.bipush 120, 2) := by decide +kernel
theorem dX7_addRosette_3 : decode cX7_addRosette 3 = .ok (.if_icmp .eq 10, 3) := by decide +kernel
theorem dX7_addRosette_6 : decode cX7_addRosette 6 = .ok (.iload_n 3, 1) := by decide +kernel
theorem dX7_addRosette_7 : decode cX7_addRosette 7 = .ok (.sipush 350, 3) := by decide +kernel
theorem dX7_addRosette_10 : decode cX7_addRosette 10 = .ok (.if_icmp .ne 7, 3) := by decide +kernel
theorem dX7_addRosette_13 : decode cX7_addRosette 13 = .ok (.iconst 1, 1) := by decide +kernel
theorem dX7_addRosette_14 : decode cX7_addRosette 14 = .ok (.goto 4, 3) := by decide +kernel
theorem dX7_addRosette_17 : decode cX7_addRosette 17 = .ok (.iconst 0, 1) := by decide +kernel
theorem dX7_addRosette_18 : decode cX7_addRosette 18 = .ok (.istore 5, 2) := by decide +kernel
theorem dX7_addRosette_20 : decode cX7_addRosette 20 = .ok (.iload_n 1, 1) := by decide +kernel
theorem dX7_addRosette_21 : decode cX7_addRosette 21 = .ok (.iconst 0, 1) := by decide +kernel
theorem dX7_addRosette_22 : decode cX7_addRosette 22 = .ok (.sipush 1000, 3) := by decide +kernel
theorem dX7_addRosette_25 : decode cX7_addRosette 25 = .ok (.invokestatic 47, 3) := by decide +kernel
theorem dX7_addRosette_28 : decode cX7_addRosette 28 = .ok (.ifCond .eq 22, 3) := by decide +kernel
theorem dX7_addRosette_31 : decode cX7_addRosette 31 = .ok (.iload 5, 2) := by decide +kernel
theorem dX7_addRosette_33 : decode cX7_addRosette 33 = .ok (.ifCond .eq 17, 3) := by decide +kernel
theorem dX7_addRosette_36 : decode cX7_addRosette 36 = .ok (.iload 4, 2) := by decide +kernel
theorem dX7_addRosette_38 : decode cX7_addRosette 38 = .ok (.sipush 180, 3) := by decide +kernel
theorem dX7_addRosette_41 : decode cX7_addRosette 41 = .ok (.sipush 240, 3) := by decide +kernel
theorem dX7_addRosette_44 : decode cX7_addRosette 44 = .ok (.invokestatic 47, 3) := by decide +kernel
theorem dX7_addRosette_47 : decode cX7_addRosette 47 = .ok (.ifCond .ne 6, 3) := by decide +kernel
theorem dX7_addRosette_50 : decode cX7_addRosette 50 = .ok (.ldc 51, 2) := by decide +kernel
theorem dX7_addRosette_52 : decode cX7_addRosette 52 = .ok (.ireturn, 1) := by decide +kernel
theorem dX7_addRosette_53 : decode cX7_addRosette 53 = .ok (.aload_n 0, 1) := by decide +kernel
theorem dX7_addRosette_54 : decode cX7_addRosette 54 = .ok (.getfield 10, 3) := by decide +kernel
theorem dX7_addRosette_57 : decode cX7_addRosette 57 = .ok (.getfield 52, 3) := by decide +kernel
theorem dX7_addRosette_60 : decode cX7_addRosette 60 = .ok (.istore 6, 2) := by decide +kernel
theorem dX7_addRosette_62 : decode cX7_addRosette 62 = .ok (.iload 6, 2) := by decide +kernel
theorem dX7_addRosette_64 : decode cX7_addRosette 64 = .ok (.ifCond .lt 16, 3) := by decide +kernel
theorem dX7_addRosette_67 : decode cX7_addRosette 67 = .ok (.iload 6, 2) := by decide +kernel
theorem dX7_addRosette_69 : decode cX7_addRosette 69 = .ok (.aload_n 0, 1) := by decide +kernel
theorem dX7_addRosette_70 : decode cX7_addRosette 70 = .ok (.getfield 10, 3) := by decide +kernel
theorem dX7_addRosette_73 : decode cX7_addRosette 73 = .ok (.getfield 56, 3) := by decide +kernel
theorem dX7_addRosette_76 : decode cX7_addRosette 76 = .ok (.arraylength, 1) := by decide +kernel
theorem dX7_addRosette_77 : decode cX7_addRosette 77 = .ok (.if_icmp .lt 9, 3) := by decide +kernel
theorem dX7_addRosette_80 : decode cX7_addRosette 80 = .ok (.aload_n 0, 1) := by decide +kernel
theorem dX7_addRosette_81 : decode cX7_addRosette 81 = .ok (.iconst 1, 1) := by decide +kernel
theorem dX7_addRosette_82 : decode cX7_addRosette 82 = .ok (.invokevirtual 60, 3) := by decide +kernel
theorem dX7_addRosette_85 : decode cX7_addRosette 85 = .ok (.ireturn, 1) := by decide +kernel
theorem dX7_addRosette_86 : decode cX7_addRosette 86 = .ok (.aload_n 0, 1) := by decide +kernel
theorem dX7_addRosette_87 : decode cX7_addRosette 87 = .ok (.getfield 10, 3) := by decide +kernel
theorem dX7_addRosette_90 : decode cX7_addRosette 90 = .ok (.iload_n 1, 1) := by decide +kernel
theorem dX7_addRosette_91 : decode cX7_addRosette 91 = .ok (.invokevirtual 64, 3) := by decide +kernel
theorem dX7_addRosette_94 : decode cX7_addRosette 94 = .ok (.ifCond .eq 10, 3) := by decide +kernel
theorem dX7_addRosette_97 : decode cX7_addRosette 97 = .ok (.aload_n 0, 1) := by decide +kernel
theorem dX7_addRosette_98 : decode cX7_addRosette 98 = .ok (.bipush 6, 2) := by decide +kernel
theorem dX7_addRosette_100 : decode cX7_addRosette 100 = .ok (.invokevirtual 60, 3) := by decide +kernel
theorem dX7_addRosette_103 : decode cX7_addRosette 103 = .ok (.ireturn, 1) := by decide +kernel
theorem dX7_addRosette_104 : decode cX7_addRosette 104 = .ok (.aload_n 0, 1) := by decide +kernel
theorem dX7_addRosette_105 : decode cX7_addRosette 105 = .ok (.getfield 22, 3) := by decide +kernel
theorem dX7_addRosette_108 : decode cX7_addRosette 108 = .ok (.aload_n 0, 1) := by decide +kernel
theorem dX7_addRosette_109 : decode cX7_addRosette 109 = .ok (.getfield 10, 3) := by decide +kernel
theorem dX7_addRosette_112 : decode cX7_addRosette 112 = .ok (.invokevirtual 68, 3) := by decide +kernel
theorem dX7_addRosette_115 : decode cX7_addRosette 115 = .ok (.aload_n 0, 1) := by decide +kernel
theorem dX7_addRosette_116 : decode cX7_addRosette 116 = .ok (.getfield 10, 3) := by decide +kernel
theorem dX7_addRosette_119 : decode cX7_addRosette 119 = .ok (.getfield 56, 3) := by decide +kernel
theorem dX7_addRosette_122 : decode cX7_addRosette 122 = .ok (.iload 6, 2) := by decide +kernel
theorem dX7_addRosette_124 : decode cX7_addRosette 124 = .ok (.aaload, 1) := by decide +kernel
theorem dX7_addRosette_125 : decode cX7_addRosette 125 = .ok (.iload_n 1, 1) := by decide +kernel
theorem dX7_addRosette_126 : decode cX7_addRosette 126 = .ok (.iload_n 2, 1) := by decide +kernel
theorem dX7_addRosette_127 : decode cX7_addRosette 127 = .ok (.iload_n 3, 1) := by decide +kernel
theorem dX7_addRosette_128 : decode cX7_addRosette 128 = .ok (.iload 4, 2) := by decide +kernel
theorem dX7_addRosette_130 : decode cX7_addRosette 130 = .ok (.invokevirtual 72, 3) := by decide +kernel
theorem dX7_addRosette_133 : decode cX7_addRosette 133 = .ok (.aload_n 0, 1) := by decide +kernel
theorem dX7_addRosette_134 : decode cX7_addRosette 134 = .ok (.getfield 10, 3) := by decide +kernel
theorem dX7_addRosette_137 : decode cX7_addRosette 137 = .ok (.dup, 1) := by decide +kernel
theorem dX7_addRosette_138 : decode cX7_addRosette 138 = .ok (.getfield 52, 3) := by decide +kernel
theorem dX7_addRosette_141 : decode cX7_addRosette 141 = .ok (.iconst 1, 1) := by decide +kernel
theorem dX7_addRosette_142 : decode cX7_addRosette 142 = .ok (.iadd, 1) := by decide +kernel
theorem dX7_addRosette_143 : decode cX7_addRosette 143 = .ok (.putfield 52, 3) := by decide +kernel
theorem dX7_addRosette_146 : decode cX7_addRosette 146 = .ok (.iload 6, 2) := by decide +kernel
theorem dX7_addRosette_148 : decode cX7_addRosette 148 = .ok (.ireturn, 1) := by decide +kernel
theorem dX7_setStrain_0 : decode cX7_setStrain 0 = .ok (.aload_n 0, 1) := by decide +kernel
theorem dX7_setStrain_1 : decode cX7_setStrain 1 = .ok (.getfield 10, 3) := by decide +kernel
theorem dX7_setStrain_4 : decode cX7_setStrain 4 = .ok (.iload_n 1, 1) := by decide +kernel
theorem dX7_setStrain_5 : decode cX7_setStrain 5 = .ok (.invokevirtual 78, 3) := by decide +kernel
theorem dX7_setStrain_8 : decode cX7_setStrain 8 = .ok (.astore 5, 2) := by decide +kernel
theorem dX7_setStrain_10 : decode cX7_setStrain 10 = .ok (.aload 5, 2) := by decide +kernel
theorem dX7_setStrain_12 : decode cX7_setStrain 12 = .ok (.ifnonnull 6, 3) := by decide +kernel
theorem dX7_setStrain_15 : decode cX7_setStrain 15 = .ok (.ldc 82, 2) := by decide +kernel
theorem dX7_setStrain_17 : decode cX7_setStrain 17 = .ok (.ireturn, 1) := by decide +kernel
theorem dX7_setStrain_18 : decode cX7_setStrain 18 = .ok (.iload_n 2, 1) := by decide +kernel
theorem dX7_setStrain_19 : decode cX7_setStrain 19 = .ok (.sipush 5000, 3) := by decide +kernel
theorem dX7_setStrain_22 : decode cX7_setStrain 22 = .ok (.invokestatic 83, 3) := by decide +kernel
theorem dX7_setStrain_25 : decode cX7_setStrain 25 = .ok (.ifCond .eq 24, 3) := by decide +kernel
theorem dX7_setStrain_28 : decode cX7_setStrain 28 = .ok (.iload_n 3, 1) := by decide +kernel
theorem dX7_setStrain_29 : decode cX7_setStrain 29 = .ok (.sipush 5000, 3) := by decide +kernel
theorem dX7_setStrain_32 : decode cX7_setStrain 32 = .ok (.invokestatic 83, 3) := by decide +kernel
theorem dX7_setStrain_35 : decode cX7_setStrain 35 = .ok (.ifCond .eq 14, 3) := by decide +kernel
theorem dX7_setStrain_38 : decode cX7_setStrain 38 = .ok (.iload 4, 2) := by decide +kernel
theorem dX7_setStrain_40 : decode cX7_setStrain 40 = .ok (.sipush 5000, 3) := by decide +kernel
theorem dX7_setStrain_43 : decode cX7_setStrain 43 = .ok (.invokestatic 83, 3) := by decide +kernel
theorem dX7_setStrain_46 : decode cX7_setStrain 46 = .ok (.ifCond .ne 6, 3) := by decide +kernel
theorem dX7_setStrain_49 : decode cX7_setStrain 49 = .ok (.ldc 51, 2) := by decide +kernel
theorem dX7_setStrain_51 : decode cX7_setStrain 51 = .ok (.ireturn, 1) := by decide +kernel
theorem dX7_setStrain_52 : decode cX7_setStrain 52 = .ok (.aload 5, 2) := by decide +kernel
theorem dX7_setStrain_54 : decode cX7_setStrain 54 = .ok (.getfield 87, 3) := by decide +kernel
theorem dX7_setStrain_57 : decode cX7_setStrain 57 = .ok (.iload_n 2, 1) := by decide +kernel
theorem dX7_setStrain_58 : decode cX7_setStrain 58 = .ok (.if_icmp .ne 25, 3) := by decide +kernel
theorem dX7_setStrain_61 : decode cX7_setStrain 61 = .ok (.aload 5, 2) := by decide +kernel
theorem dX7_setStrain_63 : decode cX7_setStrain 63 = .ok (.getfield 90, 3) := by decide +kernel
theorem dX7_setStrain_66 : decode cX7_setStrain 66 = .ok (.iload_n 3, 1) := by decide +kernel
theorem dX7_setStrain_67 : decode cX7_setStrain 67 = .ok (.if_icmp .ne 16, 3) := by decide +kernel
theorem dX7_setStrain_70 : decode cX7_setStrain 70 = .ok (.aload 5, 2) := by decide +kernel
theorem dX7_setStrain_72 : decode cX7_setStrain 72 = .ok (.getfield 93, 3) := by decide +kernel
theorem dX7_setStrain_75 : decode cX7_setStrain 75 = .ok (.iload 4, 2) := by decide +kernel
theorem dX7_setStrain_77 : decode cX7_setStrain 77 = .ok (.if_icmp .ne 6, 3) := by decide +kernel
theorem dX7_setStrain_80 : decode cX7_setStrain 80 = .ok (.ldc 96, 2) := by decide +kernel
theorem dX7_setStrain_82 : decode cX7_setStrain 82 = .ok (.ireturn, 1) := by decide +kernel
theorem dX7_setStrain_83 : decode cX7_setStrain 83 = .ok (.aload_n 0, 1) := by decide +kernel
theorem dX7_setStrain_84 : decode cX7_setStrain 84 = .ok (.getfield 22, 3) := by decide +kernel
theorem dX7_setStrain_87 : decode cX7_setStrain 87 = .ok (.aload_n 0, 1) := by decide +kernel
theorem dX7_setStrain_88 : decode cX7_setStrain 88 = .ok (.getfield 10, 3) := by decide +kernel
theorem dX7_setStrain_91 : decode cX7_setStrain 91 = .ok (.invokevirtual 68, 3) := by decide +kernel
theorem dX7_setStrain_94 : decode cX7_setStrain 94 = .ok (.aload_n 0, 1) := by decide +kernel
theorem dX7_setStrain_95 : decode cX7_setStrain 95 = .ok (.getfield 43, 3) := by decide +kernel
theorem dX7_setStrain_98 : decode cX7_setStrain 98 = .ok (.aload 5, 2) := by decide +kernel
theorem dX7_setStrain_100 : decode cX7_setStrain 100 = .ok (.aload_n 0, 1) := by decide +kernel
theorem dX7_setStrain_101 : decode cX7_setStrain 101 = .ok (.getfield 10, 3) := by decide +kernel
theorem dX7_setStrain_104 : decode cX7_setStrain 104 = .ok (.getfield 97, 3) := by decide +kernel
theorem dX7_setStrain_107 : decode cX7_setStrain 107 = .ok (.invokevirtual 100, 3) := by decide +kernel
theorem dX7_setStrain_110 : decode cX7_setStrain 110 = .ok (.aload_n 0, 1) := by decide +kernel
theorem dX7_setStrain_111 : decode cX7_setStrain 111 = .ok (.getfield 43, 3) := by decide +kernel
theorem dX7_setStrain_114 : decode cX7_setStrain 114 = .ok (.invokevirtual 104, 3) := by decide +kernel
theorem dX7_setStrain_117 : decode cX7_setStrain 117 = .ok (.aload 5, 2) := by decide +kernel
theorem dX7_setStrain_119 : decode cX7_setStrain 119 = .ok (.iload_n 2, 1) := by decide +kernel
theorem dX7_setStrain_120 : decode cX7_setStrain 120 = .ok (.putfield 87, 3) := by decide +kernel
theorem dX7_setStrain_123 : decode cX7_setStrain 123 = .ok (.aload 5, 2) := by decide +kernel
theorem dX7_setStrain_125 : decode cX7_setStrain 125 = .ok (.iload_n 3, 1) := by decide +kernel
theorem dX7_setStrain_126 : decode cX7_setStrain 126 = .ok (.putfield 90, 3) := by decide +kernel
theorem dX7_setStrain_129 : decode cX7_setStrain 129 = .ok (.aload 5, 2) := by decide +kernel
theorem dX7_setStrain_131 : decode cX7_setStrain 131 = .ok (.iload 4, 2) := by decide +kernel
theorem dX7_setStrain_133 : decode cX7_setStrain 133 = .ok (.putfield 93, 3) := by decide +kernel
theorem dX7_setStrain_136 : decode cX7_setStrain 136 = .ok (.aload_n 0, 1) := by decide +kernel
theorem dX7_setStrain_137 : decode cX7_setStrain 137 = .ok (.getfield 43, 3) := by decide +kernel
theorem dX7_setStrain_140 : decode cX7_setStrain 140 = .ok (.aload 5, 2) := by decide +kernel
theorem dX7_setStrain_142 : decode cX7_setStrain 142 = .ok (.aload_n 0, 1) := by decide +kernel
theorem dX7_setStrain_143 : decode cX7_setStrain 143 = .ok (.getfield 10, 3) := by decide +kernel
theorem dX7_setStrain_146 : decode cX7_setStrain 146 = .ok (.getfield 97, 3) := by decide +kernel
theorem dX7_setStrain_149 : decode cX7_setStrain 149 = .ok (.invokevirtual 100, 3) := by decide +kernel
theorem dX7_setStrain_152 : decode cX7_setStrain 152 = .ok (.aload_n 0, 1) := by decide +kernel
theorem dX7_setStrain_153 : decode cX7_setStrain 153 = .ok (.getfield 43, 3) := by decide +kernel
theorem dX7_setStrain_156 : decode cX7_setStrain 156 = .ok (.invokevirtual 107, 3) := by decide +kernel
theorem dX7_setStrain_159 : decode cX7_setStrain 159 = .ok (.ireturn, 1) := by decide +kernel
theorem dX7_setLeads_0 : decode cX7_setLeads 0 = .ok (.aload_n 0, 1) := by decide +kernel
theorem dX7_setLeads_1 : decode cX7_setLeads 1 = .ok (.getfield 10, 3) := by decide +kernel
theorem dX7_setLeads_4 : decode cX7_setLeads 4 = .ok (.iload_n 1, 1) := by decide +kernel
theorem dX7_setLeads_5 : decode cX7_setLeads 5 = .ok (.invokevirtual 78, 3) := by decide +kernel
theorem dX7_setLeads_8 : decode cX7_setLeads 8 = .ok (.astore_n 3, 1) := by decide +kernel
theorem dX7_setLeads_9 : decode cX7_setLeads 9 = .ok (.aload_n 3, 1) := by decide +kernel
theorem dX7_setLeads_10 : decode cX7_setLeads 10 = .ok (.ifnonnull 6, 3) := by decide +kernel
theorem dX7_setLeads_13 : decode cX7_setLeads 13 = .ok (.ldc 82, 2) := by decide +kernel
theorem dX7_setLeads_15 : decode cX7_setLeads 15 = .ok (.ireturn, 1) := by decide +kernel
theorem dX7_setLeads_16 : decode cX7_setLeads 16 = .ok (.iload_n 2, 1) := by decide +kernel
theorem dX7_setLeads_17 : decode cX7_setLeads 17 = .ok (.iconst 0, 1) := by decide +kernel
theorem dX7_setLeads_18 : decode cX7_setLeads 18 = .ok (.sipush 20000, 3) := by decide +kernel
theorem dX7_setLeads_21 : decode cX7_setLeads 21 = .ok (.invokestatic 47, 3) := by decide +kernel
theorem dX7_setLeads_24 : decode cX7_setLeads 24 = .ok (.ifCond .ne 6, 3) := by decide +kernel
theorem dX7_setLeads_27 : decode cX7_setLeads 27 = .ok (.ldc 51, 2) := by decide +kernel
theorem dX7_setLeads_29 : decode cX7_setLeads 29 = .ok (.ireturn, 1) := by decide +kernel
theorem dX7_setLeads_30 : decode cX7_setLeads 30 = .ok (.aload_n 3, 1) := by decide +kernel
theorem dX7_setLeads_31 : decode cX7_setLeads 31 = .ok (.getfield 111, 3) := by decide +kernel
theorem dX7_setLeads_34 : decode cX7_setLeads 34 = .ok (.istore 4, 2) := by decide +kernel
theorem dX7_setLeads_36 : decode cX7_setLeads 36 = .ok (.iload 4, 2) := by decide +kernel
theorem dX7_setLeads_38 : decode cX7_setLeads 38 = .ok (.iload_n 2, 1) := by decide +kernel
theorem dX7_setLeads_39 : decode cX7_setLeads 39 = .ok (.if_icmp .ne 6, 3) := by decide +kernel
theorem dX7_setLeads_42 : decode cX7_setLeads 42 = .ok (.ldc 96, 2) := by decide +kernel
theorem dX7_setLeads_44 : decode cX7_setLeads 44 = .ok (.ireturn, 1) := by decide +kernel
theorem dX7_setLeads_45 : decode cX7_setLeads 45 = .ok (.aload_n 0, 1) := by decide +kernel
theorem dX7_setLeads_46 : decode cX7_setLeads 46 = .ok (.getfield 22, 3) := by decide +kernel
theorem dX7_setLeads_49 : decode cX7_setLeads 49 = .ok (.aload_n 0, 1) := by decide +kernel
theorem dX7_setLeads_50 : decode cX7_setLeads 50 = .ok (.getfield 10, 3) := by decide +kernel
theorem dX7_setLeads_53 : decode cX7_setLeads 53 = .ok (.invokevirtual 68, 3) := by decide +kernel
theorem dX7_setLeads_56 : decode cX7_setLeads 56 = .ok (.aload_n 3, 1) := by decide +kernel
theorem dX7_setLeads_57 : decode cX7_setLeads 57 = .ok (.iload_n 2, 1) := by decide +kernel
theorem dX7_setLeads_58 : decode cX7_setLeads 58 = .ok (.putfield 111, 3) := by decide +kernel
theorem dX7_setLeads_61 : decode cX7_setLeads 61 = .ok (.iload 4, 2) := by decide +kernel
theorem dX7_setLeads_63 : decode cX7_setLeads 63 = .ok (.ireturn, 1) := by decide +kernel
theorem dX7_setOffset_0 : decode cX7_setOffset 0 = .ok (.aload_n 0, 1) := by decide +kernel
theorem dX7_setOffset_1 : decode cX7_setOffset 1 = .ok (.getfield 10, 3) := by decide +kernel
theorem dX7_setOffset_4 : decode cX7_setOffset 4 = .ok (.iload_n 1, 1) := by decide +kernel
theorem dX7_setOffset_5 : decode cX7_setOffset 5 = .ok (.invokevirtual 78, 3) := by decide +kernel
theorem dX7_setOffset_8 : decode cX7_setOffset 8 = .ok (.astore 4, 2) := by decide +kernel
theorem dX7_setOffset_10 : decode cX7_setOffset 10 = .ok (.aload 4, 2) := by decide +kernel
theorem dX7_setOffset_12 : decode cX7_setOffset 12 = .ok (.ifnull 17, 3) := by decide +kernel
theorem dX7_setOffset_15 : decode cX7_setOffset 15 = .ok (.iload_n 2, 1) := by decide +kernel
theorem dX7_setOffset_16 : decode cX7_setOffset 16 = .ok (.ifCond .lt 13, 3) := by decide +kernel
theorem dX7_setOffset_19 : decode cX7_setOffset 19 = .ok (.iload_n 2, 1) := by decide +kernel
theorem dX7_setOffset_20 : decode cX7_setOffset 20 = .ok (.aload 4, 2) := by decide +kernel
theorem dX7_setOffset_22 : decode cX7_setOffset 22 = .ok (.getfield 114, 3) := by decide +kernel
theorem dX7_setOffset_25 : decode cX7_setOffset 25 = .ok (.arraylength, 1) := by decide +kernel
theorem dX7_setOffset_26 : decode cX7_setOffset 26 = .ok (.if_icmp .lt 6, 3) := by decide +kernel
theorem dX7_setOffset_29 : decode cX7_setOffset 29 = .ok (.ldc 82, 2) := by decide +kernel
theorem dX7_setOffset_31 : decode cX7_setOffset 31 = .ok (.ireturn, 1) := by decide +kernel
theorem dX7_setOffset_32 : decode cX7_setOffset 32 = .ok (.iload_n 3, 1) := by decide +kernel
theorem dX7_setOffset_33 : decode cX7_setOffset 33 = .ok (.sipush 9999, 3) := by decide +kernel
theorem dX7_setOffset_36 : decode cX7_setOffset 36 = .ok (.invokestatic 83, 3) := by decide +kernel
theorem dX7_setOffset_39 : decode cX7_setOffset 39 = .ok (.ifCond .ne 6, 3) := by decide +kernel
theorem dX7_setOffset_42 : decode cX7_setOffset 42 = .ok (.ldc 51, 2) := by decide +kernel
theorem dX7_setOffset_44 : decode cX7_setOffset 44 = .ok (.ireturn, 1) := by decide +kernel
theorem dX7_setOffset_45 : decode cX7_setOffset 45 = .ok (.aload 4, 2) := by decide +kernel
theorem dX7_setOffset_47 : decode cX7_setOffset 47 = .ok (.getfield 114, 3) := by decide +kernel
theorem dX7_setOffset_50 : decode cX7_setOffset 50 = .ok (.iload_n 2, 1) := by decide +kernel
theorem dX7_setOffset_51 : decode cX7_setOffset 51 = .ok (.iaload, 1) := by decide +kernel
theorem dX7_setOffset_52 : decode cX7_setOffset 52 = .ok (.istore 5, 2) := by decide +kernel
theorem dX7_setOffset_54 : decode cX7_setOffset 54 = .ok (.iload 5, 2) := by decide +kernel
theorem dX7_setOffset_56 : decode cX7_setOffset 56 = .ok (.iload_n 3, 1) := by decide +kernel
theorem dX7_setOffset_57 : decode cX7_setOffset 57 = .ok (.if_icmp .ne 6, 3) := by decide +kernel
theorem dX7_setOffset_60 : decode cX7_setOffset 60 = .ok (.ldc 96, 2) := by decide +kernel
theorem dX7_setOffset_62 : decode cX7_setOffset 62 = .ok (.ireturn, 1) := by decide +kernel
theorem dX7_setOffset_63 : decode cX7_setOffset 63 = .ok (.aload_n 0, 1) := by decide +kernel
theorem dX7_setOffset_64 : decode cX7_setOffset 64 = .ok (.getfield 22, 3) := by decide +kernel
theorem dX7_setOffset_67 : decode cX7_setOffset 67 = .ok (.aload_n 0, 1) := by decide +kernel
theorem dX7_setOffset_68 : decode cX7_setOffset 68 = .ok (.getfield 10, 3) := by decide +kernel
theorem dX7_setOffset_71 : decode cX7_setOffset 71 = .ok (.invokevirtual 68, 3) := by decide +kernel
theorem dX7_setOffset_74 : decode cX7_setOffset 74 = .ok (.aload 4, 2) := by decide +kernel
theorem dX7_setOffset_76 : decode cX7_setOffset 76 = .ok (.getfield 114, 3) := by decide +kernel
theorem dX7_setOffset_79 : decode cX7_setOffset 79 = .ok (.iload_n 2, 1) := by decide +kernel
theorem dX7_setOffset_80 : decode cX7_setOffset 80 = .ok (.iload_n 3, 1) := by decide +kernel
theorem dX7_setOffset_81 : decode cX7_setOffset 81 = .ok (.iastore, 1) := by decide +kernel
theorem dX7_setOffset_82 : decode cX7_setOffset 82 = .ok (.iload 5, 2) := by decide +kernel
theorem dX7_setOffset_84 : decode cX7_setOffset 84 = .ok (.ireturn, 1) := by decide +kernel
theorem dX7_setShunt_0 : decode cX7_setShunt 0 = .ok (.aload_n 0, 1) := by decide +kernel
theorem dX7_setShunt_1 : decode cX7_setShunt 1 = .ok (.getfield 10, 3) := by decide +kernel
theorem dX7_setShunt_4 : decode cX7_setShunt 4 = .ok (.iload_n 1, 1) := by decide +kernel
theorem dX7_setShunt_5 : decode cX7_setShunt 5 = .ok (.invokevirtual 78, 3) := by decide +kernel
theorem dX7_setShunt_8 : decode cX7_setShunt 8 = .ok (.astore_n 3, 1) := by decide +kernel
theorem dX7_setShunt_9 : decode cX7_setShunt 9 = .ok (.aload_n 3, 1) := by decide +kernel
theorem dX7_setShunt_10 : decode cX7_setShunt 10 = .ok (.ifnonnull 6, 3) := by decide +kernel
theorem dX7_setShunt_13 : decode cX7_setShunt 13 = .ok (.ldc 82, 2) := by decide +kernel
theorem dX7_setShunt_15 : decode cX7_setShunt 15 = .ok (.ireturn, 1) := by decide +kernel
theorem dX7_setShunt_16 : decode cX7_setShunt 16 = .ok (.aload_n 3, 1) := by decide +kernel
theorem dX7_setShunt_17 : decode cX7_setShunt 17 = .ok (.getfield 118, 3) := by decide +kernel
theorem dX7_setShunt_20 : decode cX7_setShunt 20 = .ok (.iload_n 2, 1) := by decide +kernel
theorem dX7_setShunt_21 : decode cX7_setShunt 21 = .ok (.if_icmp .ne 6, 3) := by decide +kernel
theorem dX7_setShunt_24 : decode cX7_setShunt 24 = .ok (.ldc 96, 2) := by decide +kernel
theorem dX7_setShunt_26 : decode cX7_setShunt 26 = .ok (.ireturn, 1) := by decide +kernel
theorem dX7_setShunt_27 : decode cX7_setShunt 27 = .ok (.aload_n 0, 1) := by decide +kernel
theorem dX7_setShunt_28 : decode cX7_setShunt 28 = .ok (.getfield 22, 3) := by decide +kernel
theorem dX7_setShunt_31 : decode cX7_setShunt 31 = .ok (.aload_n 0, 1) := by decide +kernel
theorem dX7_setShunt_32 : decode cX7_setShunt 32 = .ok (.getfield 10, 3) := by decide +kernel
theorem dX7_setShunt_35 : decode cX7_setShunt 35 = .ok (.invokevirtual 68, 3) := by decide +kernel
theorem dX7_setShunt_38 : decode cX7_setShunt 38 = .ok (.aload_n 3, 1) := by decide +kernel
theorem dX7_setShunt_39 : decode cX7_setShunt 39 = .ok (.iload_n 2, 1) := by decide +kernel
theorem dX7_setShunt_40 : decode cX7_setShunt 40 = .ok (.putfield 118, 3) := by decide +kernel
theorem dX7_setShunt_43 : decode cX7_setShunt 43 = .ok (.aload_n 0, 1) := by decide +kernel
theorem dX7_setShunt_44 : decode cX7_setShunt 44 = .ok (.getfield 43, 3) := by decide +kernel
theorem dX7_setShunt_47 : decode cX7_setShunt 47 = .ok (.aload_n 3, 1) := by decide +kernel
theorem dX7_setShunt_48 : decode cX7_setShunt 48 = .ok (.aload_n 0, 1) := by decide +kernel
theorem dX7_setShunt_49 : decode cX7_setShunt 49 = .ok (.getfield 10, 3) := by decide +kernel
theorem dX7_setShunt_52 : decode cX7_setShunt 52 = .ok (.getfield 97, 3) := by decide +kernel
theorem dX7_setShunt_55 : decode cX7_setShunt 55 = .ok (.invokevirtual 100, 3) := by decide +kernel
theorem dX7_setShunt_58 : decode cX7_setShunt 58 = .ok (.aload_n 0, 1) := by decide +kernel
theorem dX7_setShunt_59 : decode cX7_setShunt 59 = .ok (.getfield 43, 3) := by decide +kernel
theorem dX7_setShunt_62 : decode cX7_setShunt 62 = .ok (.getfield 122, 3) := by decide +kernel
theorem dX7_setShunt_65 : decode cX7_setShunt 65 = .ok (.iconst 0, 1) := by decide +kernel
theorem dX7_setShunt_66 : decode cX7_setShunt 66 = .ok (.iaload, 1) := by decide +kernel
theorem dX7_setShunt_67 : decode cX7_setShunt 67 = .ok (.ireturn, 1) := by decide +kernel
theorem dX7_setSize_0 : decode cX7_setSize 0 = .ok (.iload_n 1, 1) := by decide +kernel
theorem dX7_setSize_1 : decode cX7_setSize 1 = .ok (.bipush 20, 2) := by decide +kernel
theorem dX7_setSize_3 : decode cX7_setSize 3 = .ok (.sipush 500, 3) := by decide +kernel
theorem dX7_setSize_6 : decode cX7_setSize 6 = .ok (.invokestatic 47, 3) := by decide +kernel
theorem dX7_setSize_9 : decode cX7_setSize 9 = .ok (.ifCond .ne 6, 3) := by decide +kernel
theorem dX7_setSize_12 : decode cX7_setSize 12 = .ok (.ldc 51, 2) := by decide +kernel
theorem dX7_setSize_14 : decode cX7_setSize 14 = .ok (.ireturn, 1) := by decide +kernel
theorem dX7_setSize_15 : decode cX7_setSize 15 = .ok (.aload_n 0, 1) := by decide +kernel
theorem dX7_setSize_16 : decode cX7_setSize 16 = .ok (.getfield 10, 3) := by decide +kernel
theorem dX7_setSize_19 : decode cX7_setSize 19 = .ok (.getfield 97, 3) := by decide +kernel
theorem dX7_setSize_22 : decode cX7_setSize 22 = .ok (.istore_n 2, 1) := by decide +kernel
theorem dX7_setSize_23 : decode cX7_setSize 23 = .ok (.iload_n 2, 1) := by decide +kernel
theorem dX7_setSize_24 : decode cX7_setSize 24 = .ok (.iload_n 1, 1) := by decide +kernel
theorem dX7_setSize_25 : decode cX7_setSize 25 = .ok (.if_icmp .ne 6, 3) := by decide +kernel
theorem dX7_setSize_28 : decode cX7_setSize 28 = .ok (.ldc 96, 2) := by decide +kernel
theorem dX7_setSize_30 : decode cX7_setSize 30 = .ok (.ireturn, 1) := by decide +kernel
theorem dX7_setSize_31 : decode cX7_setSize 31 = .ok (.aload_n 0, 1) := by decide +kernel
theorem dX7_setSize_32 : decode cX7_setSize 32 = .ok (.getfield 22, 3) := by decide +kernel
theorem dX7_setSize_35 : decode cX7_setSize 35 = .ok (.aload_n 0, 1) := by decide +kernel
theorem dX7_setSize_36 : decode cX7_setSize 36 = .ok (.getfield 10, 3) := by decide +kernel
theorem dX7_setSize_39 : decode cX7_setSize 39 = .ok (.invokevirtual 68, 3) := by decide +kernel
theorem dX7_setSize_42 : decode cX7_setSize 42 = .ok (.aload_n 0, 1) := by decide +kernel
theorem dX7_setSize_43 : decode cX7_setSize 43 = .ok (.getfield 10, 3) := by decide +kernel
theorem dX7_setSize_46 : decode cX7_setSize 46 = .ok (.iload_n 1, 1) := by decide +kernel
theorem dX7_setSize_47 : decode cX7_setSize 47 = .ok (.putfield 97, 3) := by decide +kernel
theorem dX7_setSize_50 : decode cX7_setSize 50 = .ok (.iload_n 2, 1) := by decide +kernel
theorem dX7_setSize_51 : decode cX7_setSize 51 = .ok (.ireturn, 1) := by decide +kernel
theorem dX7_request_0 : decode cX7_request 0 = .ok (.aload_n 0, 1) := by decide +kernel
theorem dX7_request_1 : decode cX7_request 1 = .ok (.getfield 10, 3) := by decide +kernel
theorem dX7_request_4 : decode cX7_request 4 = .ok (.iload_n 2, 1) := by decide +kernel
theorem dX7_request_5 : decode cX7_request 5 = .ok (.invokevirtual 78, 3) := by decide +kernel
theorem dX7_request_8 : decode cX7_request 8 = .ok (.ifnonnull 6, 3) := by decide +kernel
theorem dX7_request_11 : decode cX7_request 11 = .ok (.ldc 82, 2) := by decide +kernel
theorem dX7_request_13 : decode cX7_request 13 = .ok (.ireturn, 1) := by decide +kernel
theorem dX7_request_14 : decode cX7_request 14 = .ok (.iload_n 1, 1) := by decide +kernel
theorem dX7_request_15 : decode cX7_request 15 = .ok (.iconst 0, 1) := by decide +kernel
theorem dX7_request_16 : decode cX7_request 16 = .ok (.iconst 2, 1) := by decide +kernel
theorem dX7_request_17 : decode cX7_request 17 = .ok (.invokestatic 47, 3) := by decide +kernel
theorem dX7_request_20 : decode cX7_request 20 = .ok (.ifCond .eq 13, 3) := by decide +kernel
theorem dX7_request_23 : decode cX7_request 23 = .ok (.iload_n 3, 1) := by decide +kernel
theorem dX7_request_24 : decode cX7_request 24 = .ok (.iconst 0, 1) := by decide +kernel
theorem dX7_request_25 : decode cX7_request 25 = .ok (.bipush 9, 2) := by decide +kernel
theorem dX7_request_27 : decode cX7_request 27 = .ok (.invokestatic 47, 3) := by decide +kernel
theorem dX7_request_30 : decode cX7_request 30 = .ok (.ifCond .ne 6, 3) := by decide +kernel
theorem dX7_request_33 : decode cX7_request 33 = .ok (.ldc 51, 2) := by decide +kernel
theorem dX7_request_35 : decode cX7_request 35 = .ok (.ireturn, 1) := by decide +kernel
theorem dX7_request_36 : decode cX7_request 36 = .ok (.aload_n 0, 1) := by decide +kernel
theorem dX7_request_37 : decode cX7_request 37 = .ok (.getfield 10, 3) := by decide +kernel
theorem dX7_request_40 : decode cX7_request 40 = .ok (.getfield 125, 3) := by decide +kernel
theorem dX7_request_43 : decode cX7_request 43 = .ok (.getfield 129, 3) := by decide +kernel
theorem dX7_request_46 : decode cX7_request 46 = .ok (.bipush 20, 2) := by decide +kernel
theorem dX7_request_48 : decode cX7_request 48 = .ok (.if_icmp .lt 9, 3) := by decide +kernel
theorem dX7_request_51 : decode cX7_request 51 = .ok (.aload_n 0, 1) := by decide +kernel
theorem dX7_request_52 : decode cX7_request 52 = .ok (.iconst 1, 1) := by decide +kernel
theorem dX7_request_53 : decode cX7_request 53 = .ok (.invokevirtual 60, 3) := by decide +kernel
theorem dX7_request_56 : decode cX7_request 56 = .ok (.ireturn, 1) := by decide +kernel
theorem dX7_request_57 : decode cX7_request 57 = .ok (.aload_n 0, 1) := by decide +kernel
theorem dX7_request_58 : decode cX7_request 58 = .ok (.getfield 22, 3) := by decide +kernel
theorem dX7_request_61 : decode cX7_request 61 = .ok (.aload_n 0, 1) := by decide +kernel
theorem dX7_request_62 : decode cX7_request 62 = .ok (.getfield 10, 3) := by decide +kernel
theorem dX7_request_65 : decode cX7_request 65 = .ok (.invokevirtual 68, 3) := by decide +kernel
theorem dX7_request_68 : decode cX7_request 68 = .ok (.aload_n 0, 1) := by decide +kernel
theorem dX7_request_69 : decode cX7_request 69 = .ok (.getfield 10, 3) := by decide +kernel
theorem dX7_request_72 : decode cX7_request 72 = .ok (.iload_n 1, 1) := by decide +kernel
theorem dX7_request_73 : decode cX7_request 73 = .ok (.iload_n 2, 1) := by decide +kernel
theorem dX7_request_74 : decode cX7_request 74 = .ok (.iload_n 3, 1) := by decide +kernel
theorem dX7_request_75 : decode cX7_request 75 = .ok (.invokevirtual 134, 3) := by decide +kernel
theorem dX7_request_78 : decode cX7_request 78 = .ok (.ireturn, 1) := by decide +kernel
theorem dX7_cancel_0 : decode cX7_cancel 0 = .ok (.aload_n 0, 1) := by decide +kernel
theorem dX7_cancel_1 : decode cX7_cancel 1 = .ok (.getfield 10, 3) := by decide +kernel
theorem dX7_cancel_4 : decode cX7_cancel 4 = .ok (.iload_n 1, 1) := by decide +kernel
theorem dX7_cancel_5 : decode cX7_cancel 5 = .ok (.invokevirtual 78, 3) := by decide +kernel
theorem dX7_cancel_8 : decode cX7_cancel 8 = .ok (.ifnonnull 6, 3) := by decide +kernel
theorem dX7_cancel_11 : decode cX7_cancel 11 = .ok (.ldc 82, 2) := by decide +kernel
theorem dX7_cancel_13 : decode cX7_cancel 13 = .ok (.ireturn, 1) := by decide +kernel
theorem dX7_cancel_14 : decode cX7_cancel 14 = .ok (.aload_n 0, 1) := by decide +kernel
theorem dX7_cancel_15 : decode cX7_cancel 15 = .ok (.getfield 10, 3) := by decide +kernel
theorem dX7_cancel_18 : decode cX7_cancel 18 = .ok (.iload_n 1, 1) := by decide +kernel
theorem dX7_cancel_19 : decode cX7_cancel 19 = .ok (.invokevirtual 138, 3) := by decide +kernel
theorem dX7_cancel_22 : decode cX7_cancel 22 = .ok (.istore_n 2, 1) := by decide +kernel
theorem dX7_cancel_23 : decode cX7_cancel 23 = .ok (.iload_n 2, 1) := by decide +kernel
theorem dX7_cancel_24 : decode cX7_cancel 24 = .ok (.ifCond .ne 6, 3) := by decide +kernel
theorem dX7_cancel_27 : decode cX7_cancel 27 = .ok (.ldc 96, 2) := by decide +kernel
theorem dX7_cancel_29 : decode cX7_cancel 29 = .ok (.ireturn, 1) := by decide +kernel
theorem dX7_cancel_30 : decode cX7_cancel 30 = .ok (.aload_n 0, 1) := by decide +kernel
theorem dX7_cancel_31 : decode cX7_cancel 31 = .ok (.getfield 22, 3) := by decide +kernel
theorem dX7_cancel_34 : decode cX7_cancel 34 = .ok (.aload_n 0, 1) := by decide +kernel
theorem dX7_cancel_35 : decode cX7_cancel 35 = .ok (.getfield 10, 3) := by decide +kernel
theorem dX7_cancel_38 : decode cX7_cancel 38 = .ok (.invokevirtual 68, 3) := by decide +kernel
theorem dX7_cancel_41 : decode cX7_cancel 41 = .ok (.aload_n 0, 1) := by decide +kernel
theorem dX7_cancel_42 : decode cX7_cancel 42 = .ok (.getfield 10, 3) := by decide +kernel
theorem dX7_cancel_45 : decode cX7_cancel 45 = .ok (.iload_n 1, 1) := by decide +kernel
theorem dX7_cancel_46 : decode cX7_cancel 46 = .ok (.invokevirtual 141, 3) := by decide +kernel
theorem dX7_cancel_49 : decode cX7_cancel 49 = .ok (.iload_n 2, 1) := by decide +kernel
theorem dX7_cancel_50 : decode cX7_cancel 50 = .ok (.ireturn, 1) := by decide +kernel
theorem dX7_next_0 : decode cX7_next 0 = .ok (.aload_n 0, 1) := by decide +kernel
theorem dX7_next_1 : decode cX7_next 1 = .ok (.getfield 10, 3) := by decide +kernel
theorem dX7_next_4 : decode cX7_next 4 = .ok (.getfield 125, 3) := by decide +kernel
theorem dX7_next_7 : decode cX7_next 7 = .ok (.getfield 129, 3) := by decide +kernel
theorem dX7_next_10 : decode cX7_next 10 = .ok (.ifCond .ne 6, 3) := by decide +kernel
theorem dX7_next_13 : decode cX7_next 13 = .ok (.ldc 96, 2) := by decide +kernel
theorem dX7_next_15 : decode cX7_next 15 = .ok (.ireturn, 1) := by decide +kernel
theorem dX7_next_16 : decode cX7_next 16 = .ok (.aload_n 0, 1) := by decide +kernel
theorem dX7_next_17 : decode cX7_next 17 = .ok (.getfield 22, 3) := by decide +kernel
theorem dX7_next_20 : decode cX7_next 20 = .ok (.aload_n 0, 1) := by decide +kernel
theorem dX7_next_21 : decode cX7_next 21 = .ok (.getfield 10, 3) := by decide +kernel
theorem dX7_next_24 : decode cX7_next 24 = .ok (.invokevirtual 68, 3) := by decide +kernel
theorem dX7_next_27 : decode cX7_next 27 = .ok (.aload_n 0, 1) := by decide +kernel
theorem dX7_next_28 : decode cX7_next 28 = .ok (.getfield 36, 3) := by decide +kernel
theorem dX7_next_31 : decode cX7_next 31 = .ok (.aload_n 0, 1) := by decide +kernel
theorem dX7_next_32 : decode cX7_next 32 = .ok (.getfield 10, 3) := by decide +kernel
theorem dX7_next_35 : decode cX7_next 35 = .ok (.invokevirtual 145, 3) := by decide +kernel
theorem dX7_next_38 : decode cX7_next 38 = .ok (.aload_n 0, 1) := by decide +kernel
theorem dX7_next_39 : decode cX7_next 39 = .ok (.getfield 36, 3) := by decide +kernel
theorem dX7_next_42 : decode cX7_next 42 = .ok (.aload_n 0, 1) := by decide +kernel
theorem dX7_next_43 : decode cX7_next 43 = .ok (.getfield 10, 3) := by decide +kernel
theorem dX7_next_46 : decode cX7_next 46 = .ok (.invokevirtual 147, 3) := by decide +kernel
theorem dX7_next_49 : decode cX7_next 49 = .ok (.aload_n 0, 1) := by decide +kernel
theorem dX7_next_50 : decode cX7_next 50 = .ok (.getfield 10, 3) := by decide +kernel
theorem dX7_next_53 : decode cX7_next 53 = .ok (.getfield 125, 3) := by decide +kernel
theorem dX7_next_56 : decode cX7_next 56 = .ok (.aload_n 0, 1) := by decide +kernel
theorem dX7_next_57 : decode cX7_next 57 = .ok (.getfield 36, 3) := by decide +kernel
theorem dX7_next_60 : decode cX7_next 60 = .ok (.getfield 150, 3) := by decide +kernel
theorem dX7_next_63 : decode cX7_next 63 = .ok (.iconst 0, 1) := by decide +kernel
theorem dX7_next_64 : decode cX7_next 64 = .ok (.invokevirtual 153, 3) := by decide +kernel
theorem dX7_next_67 : decode cX7_next 67 = .ok (.istore_n 1, 1) := by decide +kernel
theorem dX7_next_68 : decode cX7_next 68 = .ok (.aload_n 0, 1) := by decide +kernel
theorem dX7_next_69 : decode cX7_next 69 = .ok (.aload_n 0, 1) := by decide +kernel
theorem dX7_next_70 : decode cX7_next 70 = .ok (.getfield 36, 3) := by decide +kernel
theorem dX7_next_73 : decode cX7_next 73 = .ok (.getfield 150, 3) := by decide +kernel
theorem dX7_next_76 : decode cX7_next 76 = .ok (.invokevirtual 157, 3) := by decide +kernel
theorem dX7_next_79 : decode cX7_next 79 = .ok (.iload_n 1, 1) := by decide +kernel
theorem dX7_next_80 : decode cX7_next 80 = .ok (.ireturn, 1) := by decide +kernel
theorem dX7_workOff_0 : decode cX7_workOff 0 = .ok (.aload_n 0, 1) := by decide +kernel
theorem dX7_workOff_1 : decode cX7_workOff 1 = .ok (.getfield 10, 3) := by decide +kernel
theorem dX7_workOff_4 : decode cX7_workOff 4 = .ok (.getfield 125, 3) := by decide +kernel
theorem dX7_workOff_7 : decode cX7_workOff 7 = .ok (.getfield 129, 3) := by decide +kernel
theorem dX7_workOff_10 : decode cX7_workOff 10 = .ok (.istore_n 1, 1) := by decide +kernel
theorem dX7_workOff_11 : decode cX7_workOff 11 = .ok (.iload_n 1, 1) := by decide +kernel
theorem dX7_workOff_12 : decode cX7_workOff 12 = .ok (.ifCond .ne 6, 3) := by decide +kernel
theorem dX7_workOff_15 : decode cX7_workOff 15 = .ok (.ldc 96, 2) := by decide +kernel
theorem dX7_workOff_17 : decode cX7_workOff 17 = .ok (.ireturn, 1) := by decide +kernel
theorem dX7_workOff_18 : decode cX7_workOff 18 = .ok (.aload_n 0, 1) := by decide +kernel
theorem dX7_workOff_19 : decode cX7_workOff 19 = .ok (.getfield 22, 3) := by decide +kernel
theorem dX7_workOff_22 : decode cX7_workOff 22 = .ok (.aload_n 0, 1) := by decide +kernel
theorem dX7_workOff_23 : decode cX7_workOff 23 = .ok (.getfield 10, 3) := by decide +kernel
theorem dX7_workOff_26 : decode cX7_workOff 26 = .ok (.invokevirtual 68, 3) := by decide +kernel
theorem dX7_workOff_29 : decode cX7_workOff 29 = .ok (.aload_n 0, 1) := by decide +kernel
theorem dX7_workOff_30 : decode cX7_workOff 30 = .ok (.getfield 10, 3) := by decide +kernel
theorem dX7_workOff_33 : decode cX7_workOff 33 = .ok (.getfield 160, 3) := by decide +kernel
theorem dX7_workOff_36 : decode cX7_workOff 36 = .ok (.istore_n 2, 1) := by decide +kernel
theorem dX7_workOff_37 : decode cX7_workOff 37 = .ok (.iconst 0, 1) := by decide +kernel
theorem dX7_workOff_38 : decode cX7_workOff 38 = .ok (.istore_n 3, 1) := by decide +kernel
theorem dX7_workOff_39 : decode cX7_workOff 39 = .ok (.iload_n 3, 1) := by decide +kernel
theorem dX7_workOff_40 : decode cX7_workOff 40 = .ok (.iload_n 1, 1) := by decide +kernel
theorem dX7_workOff_41 : decode cX7_workOff 41 = .ok (.if_icmp .ge 42, 3) := by decide +kernel
theorem dX7_workOff_44 : decode cX7_workOff 44 = .ok (.aload_n 0, 1) := by decide +kernel
theorem dX7_workOff_45 : decode cX7_workOff 45 = .ok (.getfield 36, 3) := by decide +kernel
theorem dX7_workOff_48 : decode cX7_workOff 48 = .ok (.aload_n 0, 1) := by decide +kernel
theorem dX7_workOff_49 : decode cX7_workOff 49 = .ok (.getfield 10, 3) := by decide +kernel
theorem dX7_workOff_52 : decode cX7_workOff 52 = .ok (.invokevirtual 145, 3) := by decide +kernel
theorem dX7_workOff_55 : decode cX7_workOff 55 = .ok (.aload_n 0, 1) := by decide +kernel
theorem dX7_workOff_56 : decode cX7_workOff 56 = .ok (.getfield 36, 3) := by decide +kernel
theorem dX7_workOff_59 : decode cX7_workOff 59 = .ok (.aload_n 0, 1) := by decide +kernel
theorem dX7_workOff_60 : decode cX7_workOff 60 = .ok (.getfield 10, 3) := by decide +kernel
theorem dX7_workOff_63 : decode cX7_workOff 63 = .ok (.invokevirtual 147, 3) := by decide +kernel
theorem dX7_workOff_66 : decode cX7_workOff 66 = .ok (.aload_n 0, 1) := by decide +kernel
theorem dX7_workOff_67 : decode cX7_workOff 67 = .ok (.aload_n 0, 1) := by decide +kernel
theorem dX7_workOff_68 : decode cX7_workOff 68 = .ok (.getfield 36, 3) := by decide +kernel
theorem dX7_workOff_71 : decode cX7_workOff 71 = .ok (.getfield 150, 3) := by decide +kernel
theorem dX7_workOff_74 : decode cX7_workOff 74 = .ok (.invokevirtual 157, 3) := by decide +kernel
theorem dX7_workOff_77 : decode cX7_workOff 77 = .ok (.iinc 3 1, 3) := by decide +kernel
theorem dX7_workOff_80 : decode cX7_workOff 80 = .ok (.goto (-41), 3) := by decide +kernel
theorem dX7_workOff_83 : decode cX7_workOff 83 = .ok (.iload_n 1, 1) := by decide +kernel
theorem dX7_workOff_84 : decode cX7_workOff 84 = .ok (.aload_n 0, 1) := by decide +kernel
theorem dX7_workOff_85 : decode cX7_workOff 85 = .ok (.getfield 10, 3) := by decide +kernel
theorem dX7_workOff_88 : decode cX7_workOff 88 = .ok (.getfield 160, 3) := by decide +kernel
theorem dX7_workOff_91 : decode cX7_workOff 91 = .ok (.iload_n 2, 1) := by decide +kernel
theorem dX7_workOff_92 : decode cX7_workOff 92 = .ok (.isub, 1) := by decide +kernel
theorem dX7_workOff_93 : decode cX7_workOff 93 = .ok (.isub, 1) := by decide +kernel
theorem dX7_workOff_94 : decode cX7_workOff 94 = .ok (.ireturn, 1) := by decide +kernel
theorem dX7_readJobs_0 : decode cX7_readJobs 0 = .ok (.aload_n 0, 1) := by decide +kernel
theorem dX7_readJobs_1 : decode cX7_readJobs 1 = .ok (.getfield 29, 3) := by decide +kernel
theorem dX7_readJobs_4 : decode cX7_readJobs 4 = .ok (.invokevirtual 170, 3) := by decide +kernel
theorem dX7_readJobs_7 : decode cX7_readJobs 7 = .ok (.istore_n 1, 1) := by decide +kernel
theorem dX7_readJobs_8 : decode cX7_readJobs 8 = .ok (.iload_n 1, 1) := by decide +kernel
theorem dX7_readJobs_9 : decode cX7_readJobs 9 = .ok (.iconst (-1), 1) := by decide +kernel
theorem dX7_readJobs_10 : decode cX7_readJobs 10 = .ok (.if_icmp .eq 8, 3) := by decide +kernel
theorem dX7_readJobs_13 : decode cX7_readJobs 13 = .ok (.bipush (-100), 2) := by decide +kernel
theorem dX7_readJobs_15 : decode cX7_readJobs 15 = .ok (.iload_n 1, 1) := by decide +kernel
theorem dX7_readJobs_16 : decode cX7_readJobs 16 = .ok (.isub, 1) := by decide +kernel
theorem dX7_readJobs_17 : decode cX7_readJobs 17 = .ok (.ireturn, 1) := by decide +kernel
theorem dX7_readJobs_18 : decode cX7_readJobs 18 = .ok (.aload_n 0, 1) := by decide +kernel
theorem dX7_readJobs_19 : decode cX7_readJobs 19 = .ok (.getfield 29, 3) := by decide +kernel
theorem dX7_readJobs_22 : decode cX7_readJobs 22 = .ok (.getfield 173, 3) := by decide +kernel
theorem dX7_readJobs_25 : decode cX7_readJobs 25 = .ok (.astore_n 2, 1) := by decide +kernel
theorem dX7_readJobs_26 : decode cX7_readJobs 26 = .ok (.iconst 0, 1) := by decide +kernel
theorem dX7_readJobs_27 : decode cX7_readJobs 27 = .ok (.istore_n 3, 1) := by decide +kernel
theorem dX7_readJobs_28 : decode cX7_readJobs 28 = .ok (.iload_n 3, 1) := by decide +kernel
theorem dX7_readJobs_29 : decode cX7_readJobs 29 = .ok (.aload_n 2, 1) := by decide +kernel
theorem dX7_readJobs_30 : decode cX7_readJobs 30 = .ok (.getfield 129, 3) := by decide +kernel
theorem dX7_readJobs_33 : decode cX7_readJobs 33 = .ok (.if_icmp .ge 28, 3) := by decide +kernel
theorem dX7_readJobs_36 : decode cX7_readJobs 36 = .ok (.aload_n 0, 1) := by decide +kernel
theorem dX7_readJobs_37 : decode cX7_readJobs 37 = .ok (.getfield 10, 3) := by decide +kernel
theorem dX7_readJobs_40 : decode cX7_readJobs 40 = .ok (.aload_n 2, 1) := by decide +kernel
theorem dX7_readJobs_41 : decode cX7_readJobs 41 = .ok (.iload_n 3, 1) := by decide +kernel
theorem dX7_readJobs_42 : decode cX7_readJobs 42 = .ok (.iconst 2, 1) := by decide +kernel
theorem dX7_readJobs_43 : decode cX7_readJobs 43 = .ok (.invokevirtual 153, 3) := by decide +kernel
theorem dX7_readJobs_46 : decode cX7_readJobs 46 = .ok (.invokevirtual 78, 3) := by decide +kernel
theorem dX7_readJobs_49 : decode cX7_readJobs 49 = .ok (.ifnonnull 6, 3) := by decide +kernel
theorem dX7_readJobs_52 : decode cX7_readJobs 52 = .ok (.ldc 82, 2) := by decide +kernel
theorem dX7_readJobs_54 : decode cX7_readJobs 54 = .ok (.ireturn, 1) := by decide +kernel
theorem dX7_readJobs_55 : decode cX7_readJobs 55 = .ok (.iinc 3 1, 3) := by decide +kernel
theorem dX7_readJobs_58 : decode cX7_readJobs 58 = .ok (.goto (-30), 3) := by decide +kernel
theorem dX7_readJobs_61 : decode cX7_readJobs 61 = .ok (.aload_n 0, 1) := by decide +kernel
theorem dX7_readJobs_62 : decode cX7_readJobs 62 = .ok (.getfield 10, 3) := by decide +kernel
theorem dX7_readJobs_65 : decode cX7_readJobs 65 = .ok (.getfield 125, 3) := by decide +kernel
theorem dX7_readJobs_68 : decode cX7_readJobs 68 = .ok (.getfield 129, 3) := by decide +kernel
theorem dX7_readJobs_71 : decode cX7_readJobs 71 = .ok (.aload_n 2, 1) := by decide +kernel
theorem dX7_readJobs_72 : decode cX7_readJobs 72 = .ok (.getfield 129, 3) := by decide +kernel
theorem dX7_readJobs_75 : decode cX7_readJobs 75 = .ok (.iadd, 1) := by decide +kernel
theorem dX7_readJobs_76 : decode cX7_readJobs 76 = .ok (.bipush 20, 2) := by decide +kernel
theorem dX7_readJobs_78 : decode cX7_readJobs 78 = .ok (.if_icmp .le 9, 3) := by decide +kernel
theorem dX7_readJobs_81 : decode cX7_readJobs 81 = .ok (.aload_n 0, 1) := by decide +kernel
theorem dX7_readJobs_82 : decode cX7_readJobs 82 = .ok (.iconst 1, 1) := by decide +kernel
theorem dX7_readJobs_83 : decode cX7_readJobs 83 = .ok (.invokevirtual 60, 3) := by decide +kernel
theorem dX7_readJobs_86 : decode cX7_readJobs 86 = .ok (.ireturn, 1) := by decide +kernel
theorem dX7_readJobs_87 : decode cX7_readJobs 87 = .ok (.aload_n 0, 1) := by decide +kernel
theorem dX7_readJobs_88 : decode cX7_readJobs 88 = .ok (.getfield 22, 3) := by decide +kernel
theorem dX7_readJobs_91 : decode cX7_readJobs 91 = .ok (.aload_n 0, 1) := by decide +kernel
theorem dX7_readJobs_92 : decode cX7_readJobs 92 = .ok (.getfield 10, 3) := by decide +kernel
theorem dX7_readJobs_95 : decode cX7_readJobs 95 = .ok (.invokevirtual 68, 3) := by decide +kernel
theorem dX7_readJobs_98 : decode cX7_readJobs 98 = .ok (.iconst 0, 1) := by decide +kernel
theorem dX7_readJobs_99 : decode cX7_readJobs 99 = .ok (.istore_n 3, 1) := by decide +kernel
theorem dX7_readJobs_100 : decode cX7_readJobs 100 = .ok (.iload_n 3, 1) := by decide +kernel
theorem dX7_readJobs_101 : decode cX7_readJobs 101 = .ok (.aload_n 2, 1) := by decide +kernel
theorem dX7_readJobs_102 : decode cX7_readJobs 102 = .ok (.getfield 129, 3) := by decide +kernel
theorem dX7_readJobs_105 : decode cX7_readJobs 105 = .ok (.if_icmp .ge 35, 3) := by decide +kernel
theorem dX7_readJobs_108 : decode cX7_readJobs 108 = .ok (.aload_n 0, 1) := by decide +kernel
theorem dX7_readJobs_109 : decode cX7_readJobs 109 = .ok (.getfield 10, 3) := by decide +kernel
theorem dX7_readJobs_112 : decode cX7_readJobs 112 = .ok (.aload_n 2, 1) := by decide +kernel
theorem dX7_readJobs_113 : decode cX7_readJobs 113 = .ok (.iload_n 3, 1) := by decide +kernel
theorem dX7_readJobs_114 : decode cX7_readJobs 114 = .ok (.iconst 1, 1) := by decide +kernel
theorem dX7_readJobs_115 : decode cX7_readJobs 115 = .ok (.invokevirtual 153, 3) := by decide +kernel
theorem dX7_readJobs_118 : decode cX7_readJobs 118 = .ok (.aload_n 2, 1) := by decide +kernel
theorem dX7_readJobs_119 : decode cX7_readJobs 119 = .ok (.iload_n 3, 1) := by decide +kernel
theorem dX7_readJobs_120 : decode cX7_readJobs 120 = .ok (.iconst 2, 1) := by decide +kernel
theorem dX7_readJobs_121 : decode cX7_readJobs 121 = .ok (.invokevirtual 153, 3) := by decide +kernel
theorem dX7_readJobs_124 : decode cX7_readJobs 124 = .ok (.aload_n 2, 1) := by decide +kernel
theorem dX7_readJobs_125 : decode cX7_readJobs 125 = .ok (.iload_n 3, 1) := by decide +kernel
theorem dX7_readJobs_126 : decode cX7_readJobs 126 = .ok (.iconst 3, 1) := by decide +kernel
theorem dX7_readJobs_127 : decode cX7_readJobs 127 = .ok (.invokevirtual 153, 3) := by decide +kernel
theorem dX7_readJobs_130 : decode cX7_readJobs 130 = .ok (.invokevirtual 134, 3) := by decide +kernel
theorem dX7_readJobs_133 : decode cX7_readJobs 133 = .ok (.pop, 1) := by decide +kernel
theorem dX7_readJobs_134 : decode cX7_readJobs 134 = .ok (.iinc 3 1, 3) := by decide +kernel
theorem dX7_readJobs_137 : decode cX7_readJobs 137 = .ok (.goto (-37), 3) := by decide +kernel
theorem dX7_readJobs_140 : decode cX7_readJobs 140 = .ok (.aload_n 2, 1) := by decide +kernel
theorem dX7_readJobs_141 : decode cX7_readJobs 141 = .ok (.getfield 129, 3) := by decide +kernel
theorem dX7_readJobs_144 : decode cX7_readJobs 144 = .ok (.ireturn, 1) := by decide +kernel
theorem dX7_undo_0 : decode cX7_undo 0 = .ok (.aload_n 0, 1) := by decide +kernel
theorem dX7_undo_1 : decode cX7_undo 1 = .ok (.getfield 22, 3) := by decide +kernel
theorem dX7_undo_4 : decode cX7_undo 4 = .ok (.invokevirtual 174, 3) := by decide +kernel
theorem dX7_undo_7 : decode cX7_undo 7 = .ok (.astore_n 1, 1) := by decide +kernel
theorem dX7_undo_8 : decode cX7_undo 8 = .ok (.aload_n 1, 1) := by decide +kernel
theorem dX7_undo_9 : decode cX7_undo 9 = .ok (.ifnonnull 6, 3) := by decide +kernel
theorem dX7_undo_12 : decode cX7_undo 12 = .ok (.ldc 96, 2) := by decide +kernel
theorem dX7_undo_14 : decode cX7_undo 14 = .ok (.ireturn, 1) := by decide +kernel
theorem dX7_undo_15 : decode cX7_undo 15 = .ok (.aload_n 0, 1) := by decide +kernel
theorem dX7_undo_16 : decode cX7_undo 16 = .ok (.getfield 10, 3) := by decide +kernel
theorem dX7_undo_19 : decode cX7_undo 19 = .ok (.aload_n 1, 1) := by decide +kernel
theorem dX7_undo_20 : decode cX7_undo 20 = .ok (.invokevirtual 178, 3) := by decide +kernel
theorem dX7_undo_23 : decode cX7_undo 23 = .ok (.aload_n 0, 1) := by decide +kernel
theorem dX7_undo_24 : decode cX7_undo 24 = .ok (.getfield 22, 3) := by decide +kernel
theorem dX7_undo_27 : decode cX7_undo 27 = .ok (.getfield 181, 3) := by decide +kernel
theorem dX7_undo_30 : decode cX7_undo 30 = .ok (.ireturn, 1) := by decide +kernel
theorem dX7_restore_0 : decode cX7_restore 0 = .ok (.aload_n 0, 1) := by decide +kernel
theorem dX7_restore_1 : decode cX7_restore 1 = .ok (.getfield 182, 3) := by decide +kernel
theorem dX7_restore_4 : decode cX7_restore 4 = .ok (.ifCond .ne 6, 3) := by decide +kernel
theorem dX7_restore_7 : decode cX7_restore 7 = .ok (.ldc 96, 2) := by decide +kernel
theorem dX7_restore_9 : decode cX7_restore 9 = .ok (.ireturn, 1) := by decide +kernel
theorem dX7_restore_10 : decode cX7_restore 10 = .ok (.aload_n 0, 1) := by decide +kernel
theorem dX7_restore_11 : decode cX7_restore 11 = .ok (.getfield 22, 3) := by decide +kernel
theorem dX7_restore_14 : decode cX7_restore 14 = .ok (.aload_n 0, 1) := by decide +kernel
theorem dX7_restore_15 : decode cX7_restore 15 = .ok (.getfield 10, 3) := by decide +kernel
theorem dX7_restore_18 : decode cX7_restore 18 = .ok (.invokevirtual 68, 3) := by decide +kernel
theorem dX7_restore_21 : decode cX7_restore 21 = .ok (.aload_n 0, 1) := by decide +kernel
theorem dX7_restore_22 : decode cX7_restore 22 = .ok (.getfield 10, 3) := by decide +kernel
theorem dX7_restore_25 : decode cX7_restore 25 = .ok (.aload_n 0, 1) := by decide +kernel
theorem dX7_restore_26 : decode cX7_restore 26 = .ok (.getfield 16, 3) := by decide +kernel
theorem dX7_restore_29 : decode cX7_restore 29 = .ok (.invokevirtual 178, 3) := by decide +kernel
theorem dX7_restore_32 : decode cX7_restore 32 = .ok (.aload_n 0, 1) := by decide +kernel
theorem dX7_restore_33 : decode cX7_restore 33 = .ok (.getfield 10, 3) := by decide +kernel
theorem dX7_restore_36 : decode cX7_restore 36 = .ok (.getfield 52, 3) := by decide +kernel
theorem dX7_restore_39 : decode cX7_restore 39 = .ok (.ireturn, 1) := by decide +kernel
theorem dX7_rosette_0 : decode cX7_rosette 0 = .ok (.aload_n 0, 1) := by decide +kernel
theorem dX7_rosette_1 : decode cX7_rosette 1 = .ok (.getfield 10, 3) := by decide +kernel
theorem dX7_rosette_4 : decode cX7_rosette 4 = .ok (.iload_n 1, 1) := by decide +kernel
theorem dX7_rosette_5 : decode cX7_rosette 5 = .ok (.invokevirtual 78, 3) := by decide +kernel
theorem dX7_rosette_8 : decode cX7_rosette 8 = .ok (.astore_n 3, 1) := by decide +kernel
theorem dX7_rosette_9 : decode cX7_rosette 9 = .ok (.aload_n 3, 1) := by decide +kernel
theorem dX7_rosette_10 : decode cX7_rosette 10 = .ok (.ifnonnull 6, 3) := by decide +kernel
theorem dX7_rosette_13 : decode cX7_rosette 13 = .ok (.ldc 82, 2) := by decide +kernel
theorem dX7_rosette_15 : decode cX7_rosette 15 = .ok (.ireturn, 1) := by decide +kernel
theorem dX7_rosette_16 : decode cX7_rosette 16 = .ok (.aload_n 0, 1) := by decide +kernel
theorem dX7_rosette_17 : decode cX7_rosette 17 = .ok (.getfield 43, 3) := by decide +kernel
theorem dX7_rosette_20 : decode cX7_rosette 20 = .ok (.aload_n 3, 1) := by decide +kernel
theorem dX7_rosette_21 : decode cX7_rosette 21 = .ok (.aload_n 0, 1) := by decide +kernel
theorem dX7_rosette_22 : decode cX7_rosette 22 = .ok (.getfield 10, 3) := by decide +kernel
theorem dX7_rosette_25 : decode cX7_rosette 25 = .ok (.getfield 97, 3) := by decide +kernel
theorem dX7_rosette_28 : decode cX7_rosette 28 = .ok (.invokevirtual 100, 3) := by decide +kernel
theorem dX7_rosette_31 : decode cX7_rosette 31 = .ok (.iload_n 2, 1) := by decide +kernel
theorem dX7_rosette_32 : decode cX7_rosette 32 = .ok (.tableswitch 150 0 11 #[64, 69, 82, 87, 92, 97, 102, 107, 112, 125, 133, 141], 64) := by decide +kernel
theorem dX7_rosette_96 : decode cX7_rosette 96 = .ok (.aload_n 3, 1) := by decide +kernel
theorem dX7_rosette_97 : decode cX7_rosette 97 = .ok (.getfield 185, 3) := by decide +kernel
theorem dX7_rosette_100 : decode cX7_rosette 100 = .ok (.ireturn, 1) := by decide +kernel
theorem dX7_rosette_101 : decode cX7_rosette 101 = .ok (.aload_n 3, 1) := by decide +kernel
theorem dX7_rosette_102 : decode cX7_rosette 102 = .ok (.getfield 188, 3) := by decide +kernel
theorem dX7_rosette_105 : decode cX7_rosette 105 = .ok (.ifCond .eq 7, 3) := by decide +kernel
theorem dX7_rosette_108 : decode cX7_rosette 108 = .ok (.iconst 1, 1) := by decide +kernel
theorem dX7_rosette_109 : decode cX7_rosette 109 = .ok (.goto 4, 3) := by decide +kernel
theorem dX7_rosette_112 : decode cX7_rosette 112 = .ok (.iconst 0, 1) := by decide +kernel
theorem dX7_rosette_113 : decode cX7_rosette 113 = .ok (.ireturn, 1) := by decide +kernel
theorem dX7_rosette_114 : decode cX7_rosette 114 = .ok (.aload_n 3, 1) := by decide +kernel
theorem dX7_rosette_115 : decode cX7_rosette 115 = .ok (.getfield 191, 3) := by decide +kernel
theorem dX7_rosette_118 : decode cX7_rosette 118 = .ok (.ireturn, 1) := by decide +kernel
theorem dX7_rosette_119 : decode cX7_rosette 119 = .ok (.aload_n 3, 1) := by decide +kernel
theorem dX7_rosette_120 : decode cX7_rosette 120 = .ok (.getfield 194, 3) := by decide +kernel
theorem dX7_rosette_123 : decode cX7_rosette 123 = .ok (.ireturn, 1) := by decide +kernel
theorem dX7_rosette_124 : decode cX7_rosette 124 = .ok (.aload_n 3, 1) := by decide +kernel
theorem dX7_rosette_125 : decode cX7_rosette 125 = .ok (.getfield 111, 3) := by decide +kernel
theorem dX7_rosette_128 : decode cX7_rosette 128 = .ok (.ireturn, 1) := by decide +kernel
theorem dX7_rosette_129 : decode cX7_rosette 129 = .ok (.aload_n 3, 1) := by decide +kernel
theorem dX7_rosette_130 : decode cX7_rosette 130 = .ok (.getfield 87, 3) := by decide +kernel
theorem dX7_rosette_133 : decode cX7_rosette 133 = .ok (.ireturn, 1) := by decide +kernel
theorem dX7_rosette_134 : decode cX7_rosette 134 = .ok (.aload_n 3, 1) := by decide +kernel
theorem dX7_rosette_135 : decode cX7_rosette 135 = .ok (.getfield 90, 3) := by decide +kernel
theorem dX7_rosette_138 : decode cX7_rosette 138 = .ok (.ireturn, 1) := by decide +kernel
theorem dX7_rosette_139 : decode cX7_rosette 139 = .ok (.aload_n 3, 1) := by decide +kernel
theorem dX7_rosette_140 : decode cX7_rosette 140 = .ok (.getfield 93, 3) := by decide +kernel
theorem dX7_rosette_143 : decode cX7_rosette 143 = .ok (.ireturn, 1) := by decide +kernel
theorem dX7_rosette_144 : decode cX7_rosette 144 = .ok (.aload_n 3, 1) := by decide +kernel
theorem dX7_rosette_145 : decode cX7_rosette 145 = .ok (.getfield 118, 3) := by decide +kernel
theorem dX7_rosette_148 : decode cX7_rosette 148 = .ok (.ifCond .eq 7, 3) := by decide +kernel
theorem dX7_rosette_151 : decode cX7_rosette 151 = .ok (.iconst 1, 1) := by decide +kernel
theorem dX7_rosette_152 : decode cX7_rosette 152 = .ok (.goto 4, 3) := by decide +kernel
theorem dX7_rosette_155 : decode cX7_rosette 155 = .ok (.iconst 0, 1) := by decide +kernel
theorem dX7_rosette_156 : decode cX7_rosette 156 = .ok (.ireturn, 1) := by decide +kernel
theorem dX7_rosette_157 : decode cX7_rosette 157 = .ok (.aload_n 0, 1) := by decide +kernel
theorem dX7_rosette_158 : decode cX7_rosette 158 = .ok (.getfield 43, 3) := by decide +kernel
theorem dX7_rosette_161 : decode cX7_rosette 161 = .ok (.getfield 197, 3) := by decide +kernel
theorem dX7_rosette_164 : decode cX7_rosette 164 = .ok (.ireturn, 1) := by decide +kernel
theorem dX7_rosette_165 : decode cX7_rosette 165 = .ok (.aload_n 0, 1) := by decide +kernel
theorem dX7_rosette_166 : decode cX7_rosette 166 = .ok (.getfield 43, 3) := by decide +kernel
theorem dX7_rosette_169 : decode cX7_rosette 169 = .ok (.getfield 200, 3) := by decide +kernel
theorem dX7_rosette_172 : decode cX7_rosette 172 = .ok (.ireturn, 1) := by decide +kernel
theorem dX7_rosette_173 : decode cX7_rosette 173 = .ok (.aload_n 0, 1) := by decide +kernel
theorem dX7_rosette_174 : decode cX7_rosette 174 = .ok (.getfield 10, 3) := by decide +kernel
theorem dX7_rosette_177 : decode cX7_rosette 177 = .ok (.iload_n 1, 1) := by decide +kernel
theorem dX7_rosette_178 : decode cX7_rosette 178 = .ok (.invokevirtual 138, 3) := by decide +kernel
theorem dX7_rosette_181 : decode cX7_rosette 181 = .ok (.ireturn, 1) := by decide +kernel
theorem dX7_rosette_182 : decode cX7_rosette 182 = .ok (.ldc 51, 2) := by decide +kernel
theorem dX7_rosette_184 : decode cX7_rosette 184 = .ok (.ireturn, 1) := by decide +kernel
theorem dX7_gauge_0 : decode cX7_gauge 0 = .ok (.aload_n 0, 1) := by decide +kernel
theorem dX7_gauge_1 : decode cX7_gauge 1 = .ok (.getfield 10, 3) := by decide +kernel
theorem dX7_gauge_4 : decode cX7_gauge 4 = .ok (.iload_n 1, 1) := by decide +kernel
theorem dX7_gauge_5 : decode cX7_gauge 5 = .ok (.invokevirtual 78, 3) := by decide +kernel
theorem dX7_gauge_8 : decode cX7_gauge 8 = .ok (.astore 4, 2) := by decide +kernel
theorem dX7_gauge_10 : decode cX7_gauge 10 = .ok (.aload 4, 2) := by decide +kernel
theorem dX7_gauge_12 : decode cX7_gauge 12 = .ok (.ifnull 12, 3) := by decide +kernel
theorem dX7_gauge_15 : decode cX7_gauge 15 = .ok (.iload_n 2, 1) := by decide +kernel
theorem dX7_gauge_16 : decode cX7_gauge 16 = .ok (.iconst 0, 1) := by decide +kernel
theorem dX7_gauge_17 : decode cX7_gauge 17 = .ok (.iconst 2, 1) := by decide +kernel
theorem dX7_gauge_18 : decode cX7_gauge 18 = .ok (.invokestatic 47, 3) := by decide +kernel
theorem dX7_gauge_21 : decode cX7_gauge 21 = .ok (.ifCond .ne 6, 3) := by decide +kernel
theorem dX7_gauge_24 : decode cX7_gauge 24 = .ok (.ldc 82, 2) := by decide +kernel
theorem dX7_gauge_26 : decode cX7_gauge 26 = .ok (.ireturn, 1) := by decide +kernel
theorem dX7_gauge_27 : decode cX7_gauge 27 = .ok (.aload_n 0, 1) := by decide +kernel
theorem dX7_gauge_28 : decode cX7_gauge 28 = .ok (.getfield 43, 3) := by decide +kernel
theorem dX7_gauge_31 : decode cX7_gauge 31 = .ok (.aload 4, 2) := by decide +kernel
theorem dX7_gauge_33 : decode cX7_gauge 33 = .ok (.aload_n 0, 1) := by decide +kernel
theorem dX7_gauge_34 : decode cX7_gauge 34 = .ok (.getfield 10, 3) := by decide +kernel
theorem dX7_gauge_37 : decode cX7_gauge 37 = .ok (.getfield 97, 3) := by decide +kernel
theorem dX7_gauge_40 : decode cX7_gauge 40 = .ok (.invokevirtual 100, 3) := by decide +kernel
theorem dX7_gauge_43 : decode cX7_gauge 43 = .ok (.iload_n 3, 1) := by decide +kernel
theorem dX7_gauge_44 : decode cX7_gauge 44 = .ok (.tableswitch 122 0 7 #[48, 56, 66, 76, 86, 94, 102, 112], 48) := by decide +kernel
theorem dX7_gauge_92 : decode cX7_gauge 92 = .ok (.aload 4, 2) := by decide +kernel
theorem dX7_gauge_94 : decode cX7_gauge 94 = .ok (.getfield 114, 3) := by decide +kernel
theorem dX7_gauge_97 : decode cX7_gauge 97 = .ok (.iload_n 2, 1) := by decide +kernel
theorem dX7_gauge_98 : decode cX7_gauge 98 = .ok (.iaload, 1) := by decide +kernel
theorem dX7_gauge_99 : decode cX7_gauge 99 = .ok (.ireturn, 1) := by decide +kernel
theorem dX7_gauge_100 : decode cX7_gauge 100 = .ok (.aload_n 0, 1) := by decide +kernel
theorem dX7_gauge_101 : decode cX7_gauge 101 = .ok (.getfield 43, 3) := by decide +kernel
theorem dX7_gauge_104 : decode cX7_gauge 104 = .ok (.getfield 203, 3) := by decide +kernel
theorem dX7_gauge_107 : decode cX7_gauge 107 = .ok (.iload_n 2, 1) := by decide +kernel
theorem dX7_gauge_108 : decode cX7_gauge 108 = .ok (.iaload, 1) := by decide +kernel
theorem dX7_gauge_109 : decode cX7_gauge 109 = .ok (.ireturn, 1) := by decide +kernel
theorem dX7_gauge_110 : decode cX7_gauge 110 = .ok (.aload_n 0, 1) := by decide +kernel
theorem dX7_gauge_111 : decode cX7_gauge 111 = .ok (.getfield 43, 3) := by decide +kernel
theorem dX7_gauge_114 : decode cX7_gauge 114 = .ok (.getfield 206, 3) := by decide +kernel
theorem dX7_gauge_117 : decode cX7_gauge 117 = .ok (.iload_n 2, 1) := by decide +kernel
theorem dX7_gauge_118 : decode cX7_gauge 118 = .ok (.iaload, 1) := by decide +kernel
theorem dX7_gauge_119 : decode cX7_gauge 119 = .ok (.ireturn, 1) := by decide +kernel
theorem dX7_gauge_120 : decode cX7_gauge 120 = .ok (.aload_n 0, 1) := by decide +kernel
theorem dX7_gauge_121 : decode cX7_gauge 121 = .ok (.getfield 43, 3) := by decide +kernel
theorem dX7_gauge_124 : decode cX7_gauge 124 = .ok (.getfield 122, 3) := by decide +kernel
theorem dX7_gauge_127 : decode cX7_gauge 127 = .ok (.iload_n 2, 1) := by decide +kernel
theorem dX7_gauge_128 : decode cX7_gauge 128 = .ok (.iaload, 1) := by decide +kernel
theorem dX7_gauge_129 : decode cX7_gauge 129 = .ok (.ireturn, 1) := by decide +kernel
theorem dX7_gauge_130 : decode cX7_gauge 130 = .ok (.aload 4, 2) := by decide +kernel
theorem dX7_gauge_132 : decode cX7_gauge 132 = .ok (.getfield 209, 3) := by decide +kernel
theorem dX7_gauge_135 : decode cX7_gauge 135 = .ok (.iload_n 2, 1) := by decide +kernel
theorem dX7_gauge_136 : decode cX7_gauge 136 = .ok (.iaload, 1) := by decide +kernel
theorem dX7_gauge_137 : decode cX7_gauge 137 = .ok (.ireturn, 1) := by decide +kernel
theorem dX7_gauge_138 : decode cX7_gauge 138 = .ok (.aload 4, 2) := by decide +kernel
theorem dX7_gauge_140 : decode cX7_gauge 140 = .ok (.getfield 212, 3) := by decide +kernel
theorem dX7_gauge_143 : decode cX7_gauge 143 = .ok (.iload_n 2, 1) := by decide +kernel
theorem dX7_gauge_144 : decode cX7_gauge 144 = .ok (.iaload, 1) := by decide +kernel
theorem dX7_gauge_145 : decode cX7_gauge 145 = .ok (.ireturn, 1) := by decide +kernel
theorem dX7_gauge_146 : decode cX7_gauge 146 = .ok (.aload_n 0, 1) := by decide +kernel
theorem dX7_gauge_147 : decode cX7_gauge 147 = .ok (.getfield 43, 3) := by decide +kernel
theorem dX7_gauge_150 : decode cX7_gauge 150 = .ok (.getfield 215, 3) := by decide +kernel
theorem dX7_gauge_153 : decode cX7_gauge 153 = .ok (.iload_n 2, 1) := by decide +kernel
theorem dX7_gauge_154 : decode cX7_gauge 154 = .ok (.iaload, 1) := by decide +kernel
theorem dX7_gauge_155 : decode cX7_gauge 155 = .ok (.ireturn, 1) := by decide +kernel
theorem dX7_gauge_156 : decode cX7_gauge 156 = .ok (.aload_n 0, 1) := by decide +kernel
theorem dX7_gauge_157 : decode cX7_gauge 157 = .ok (.getfield 43, 3) := by decide +kernel
theorem dX7_gauge_160 : decode cX7_gauge 160 = .ok (.getfield 218, 3) := by decide +kernel
theorem dX7_gauge_163 : decode cX7_gauge 163 = .ok (.iload_n 2, 1) := by decide +kernel
theorem dX7_gauge_164 : decode cX7_gauge 164 = .ok (.iaload, 1) := by decide +kernel
theorem dX7_gauge_165 : decode cX7_gauge 165 = .ok (.ireturn, 1) := by decide +kernel
theorem dX7_gauge_166 : decode cX7_gauge 166 = .ok (.ldc 51, 2) := by decide +kernel
theorem dX7_gauge_168 : decode cX7_gauge 168 = .ok (.ireturn, 1) := by decide +kernel
theorem dX7_principal_0 : decode cX7_principal 0 = .ok (.aload_n 0, 1) := by decide +kernel
theorem dX7_principal_1 : decode cX7_principal 1 = .ok (.getfield 10, 3) := by decide +kernel
theorem dX7_principal_4 : decode cX7_principal 4 = .ok (.iload_n 1, 1) := by decide +kernel
theorem dX7_principal_5 : decode cX7_principal 5 = .ok (.invokevirtual 78, 3) := by decide +kernel
theorem dX7_principal_8 : decode cX7_principal 8 = .ok (.astore_n 3, 1) := by decide +kernel
theorem dX7_principal_9 : decode cX7_principal 9 = .ok (.aload_n 3, 1) := by decide +kernel
theorem dX7_principal_10 : decode cX7_principal 10 = .ok (.ifnonnull 6, 3) := by decide +kernel
theorem dX7_principal_13 : decode cX7_principal 13 = .ok (.ldc 82, 2) := by decide +kernel
theorem dX7_principal_15 : decode cX7_principal 15 = .ok (.ireturn, 1) := by decide +kernel
theorem dX7_principal_16 : decode cX7_principal 16 = .ok (.aload_n 0, 1) := by decide +kernel
theorem dX7_principal_17 : decode cX7_principal 17 = .ok (.getfield 43, 3) := by decide +kernel
theorem dX7_principal_20 : decode cX7_principal 20 = .ok (.aload_n 3, 1) := by decide +kernel
theorem dX7_principal_21 : decode cX7_principal 21 = .ok (.aload_n 0, 1) := by decide +kernel
theorem dX7_principal_22 : decode cX7_principal 22 = .ok (.getfield 10, 3) := by decide +kernel
theorem dX7_principal_25 : decode cX7_principal 25 = .ok (.getfield 97, 3) := by decide +kernel
theorem dX7_principal_28 : decode cX7_principal 28 = .ok (.invokevirtual 100, 3) := by decide +kernel
theorem dX7_principal_31 : decode cX7_principal 31 = .ok (.iload_n 2, 1) := by decide +kernel
theorem dX7_principal_32 : decode cX7_principal 32 = .ok (.tableswitch 128 0 7 #[48, 64, 80, 88, 96, 104, 112, 120], 48) := by decide +kernel
theorem dX7_principal_80 : decode cX7_principal 80 = .ok (.aload_n 0, 1) := by decide +kernel
theorem dX7_principal_81 : decode cX7_principal 81 = .ok (.getfield 43, 3) := by decide +kernel
theorem dX7_principal_84 : decode cX7_principal 84 = .ok (.getfield 221, 3) := by decide +kernel
theorem dX7_principal_87 : decode cX7_principal 87 = .ok (.aload_n 0, 1) := by decide +kernel
theorem dX7_principal_88 : decode cX7_principal 88 = .ok (.getfield 43, 3) := by decide +kernel
theorem dX7_principal_91 : decode cX7_principal 91 = .ok (.getfield 224, 3) := by decide +kernel
theorem dX7_principal_94 : decode cX7_principal 94 = .ok (.iadd, 1) := by decide +kernel
theorem dX7_principal_95 : decode cX7_principal 95 = .ok (.ireturn, 1) := by decide +kernel
theorem dX7_principal_96 : decode cX7_principal 96 = .ok (.aload_n 0, 1) := by decide +kernel
theorem dX7_principal_97 : decode cX7_principal 97 = .ok (.getfield 43, 3) := by decide +kernel
theorem dX7_principal_100 : decode cX7_principal 100 = .ok (.getfield 221, 3) := by decide +kernel
theorem dX7_principal_103 : decode cX7_principal 103 = .ok (.aload_n 0, 1) := by decide +kernel
theorem dX7_principal_104 : decode cX7_principal 104 = .ok (.getfield 43, 3) := by decide +kernel
theorem dX7_principal_107 : decode cX7_principal 107 = .ok (.getfield 224, 3) := by decide +kernel
theorem dX7_principal_110 : decode cX7_principal 110 = .ok (.isub, 1) := by decide +kernel
theorem dX7_principal_111 : decode cX7_principal 111 = .ok (.ireturn, 1) := by decide +kernel
theorem dX7_principal_112 : decode cX7_principal 112 = .ok (.aload_n 0, 1) := by decide +kernel
theorem dX7_principal_113 : decode cX7_principal 113 = .ok (.getfield 43, 3) := by decide +kernel
theorem dX7_principal_116 : decode cX7_principal 116 = .ok (.getfield 227, 3) := by decide +kernel
theorem dX7_principal_119 : decode cX7_principal 119 = .ok (.ireturn, 1) := by decide +kernel
theorem dX7_principal_120 : decode cX7_principal 120 = .ok (.aload_n 0, 1) := by decide +kernel
theorem dX7_principal_121 : decode cX7_principal 121 = .ok (.getfield 43, 3) := by decide +kernel
theorem dX7_principal_124 : decode cX7_principal 124 = .ok (.getfield 224, 3) := by decide +kernel
theorem dX7_principal_127 : decode cX7_principal 127 = .ok (.ireturn, 1) := by decide +kernel
theorem dX7_principal_128 : decode cX7_principal 128 = .ok (.aload_n 0, 1) := by decide +kernel
theorem dX7_principal_129 : decode cX7_principal 129 = .ok (.getfield 43, 3) := by decide +kernel
theorem dX7_principal_132 : decode cX7_principal 132 = .ok (.getfield 230, 3) := by decide +kernel
theorem dX7_principal_135 : decode cX7_principal 135 = .ok (.ireturn, 1) := by decide +kernel
theorem dX7_principal_136 : decode cX7_principal 136 = .ok (.aload_n 0, 1) := by decide +kernel
theorem dX7_principal_137 : decode cX7_principal 137 = .ok (.getfield 43, 3) := by decide +kernel
theorem dX7_principal_140 : decode cX7_principal 140 = .ok (.getfield 231, 3) := by decide +kernel
theorem dX7_principal_143 : decode cX7_principal 143 = .ok (.ireturn, 1) := by decide +kernel
theorem dX7_principal_144 : decode cX7_principal 144 = .ok (.aload_n 0, 1) := by decide +kernel
theorem dX7_principal_145 : decode cX7_principal 145 = .ok (.getfield 43, 3) := by decide +kernel
theorem dX7_principal_148 : decode cX7_principal 148 = .ok (.getfield 232, 3) := by decide +kernel
theorem dX7_principal_151 : decode cX7_principal 151 = .ok (.ireturn, 1) := by decide +kernel
theorem dX7_principal_152 : decode cX7_principal 152 = .ok (.aload_n 0, 1) := by decide +kernel
theorem dX7_principal_153 : decode cX7_principal 153 = .ok (.getfield 43, 3) := by decide +kernel
theorem dX7_principal_156 : decode cX7_principal 156 = .ok (.getfield 221, 3) := by decide +kernel
theorem dX7_principal_159 : decode cX7_principal 159 = .ok (.ireturn, 1) := by decide +kernel
theorem dX7_principal_160 : decode cX7_principal 160 = .ok (.ldc 51, 2) := by decide +kernel
theorem dX7_principal_162 : decode cX7_principal 162 = .ok (.ireturn, 1) := by decide +kernel
theorem dX7_pull_0 : decode cX7_pull 0 = .ok (.aload_n 0, 1) := by decide +kernel
