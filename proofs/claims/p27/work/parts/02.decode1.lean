theorem dX0_init_0 : decode cX0_init 0 = .ok (.aload_n 0, 1) := by decide +kernel
theorem dX0_init_1 : decode cX0_init 1 = .ok (.invokespecial 3, 3) := by decide +kernel
theorem dX0_init_4 : decode cX0_init 4 = .ok (.aload_n 0, 1) := by decide +kernel
theorem dX0_init_5 : decode cX0_init 5 = .ok (.iconst 5, 1) := by decide +kernel
theorem dX0_init_6 : decode cX0_init 6 = .ok (.anewarray 9, 3) := by decide +kernel
theorem dX0_init_9 : decode cX0_init 9 = .ok (.putfield 11, 3) := by decide +kernel
theorem dX0_init_12 : decode cX0_init 12 = .ok (.iconst 0, 1) := by decide +kernel
theorem dX0_init_13 : decode cX0_init 13 = .ok (.istore_n 1, 1) := by decide +kernel
theorem dX0_init_14 : decode cX0_init 14 = .ok (.iload_n 1, 1) := by decide +kernel
theorem dX0_init_15 : decode cX0_init 15 = .ok (.iconst 5, 1) := by decide +kernel
theorem dX0_init_16 : decode cX0_init 16 = .ok (.if_icmp .ge 22, 3) := by decide +kernel
theorem dX0_init_19 : decode cX0_init 19 = .ok (.aload_n 0, 1) := by decide +kernel
theorem dX0_init_20 : decode cX0_init 20 = .ok (.getfield 11, 3) := by decide +kernel
theorem dX0_init_23 : decode cX0_init 23 = .ok (.iload_n 1, 1) := by decide +kernel
theorem dX0_init_24 : decode cX0_init 24 = .ok (.new 9, 3) := by decide +kernel
theorem dX0_init_27 : decode cX0_init 27 = .ok (.dup, 1) := by decide +kernel
theorem dX0_init_28 : decode cX0_init 28 = .ok (.invokespecial 17, 3) := by decide +kernel
theorem dX0_init_31 : decode cX0_init 31 = .ok (.aastore, 1) := by decide +kernel
theorem dX0_init_32 : decode cX0_init 32 = .ok (.iinc 1 1, 3) := by decide +kernel
theorem dX0_init_35 : decode cX0_init 35 = .ok (.goto (-21), 3) := by decide +kernel
theorem dX0_init_38 : decode cX0_init 38 = .ok (.return_, 1) := by decide +kernel
theorem dX0_add_0 : decode cX0_add 0 = .ok (.aload_n 0, 1) := by decide +kernel
theorem dX0_add_1 : decode cX0_add 1 = .ok (.getfield 18, 3) := by decide +kernel
theorem dX0_add_4 : decode cX0_add 4 = .ok (.iconst 5, 1) := by decide +kernel
theorem dX0_add_5 : decode cX0_add 5 = .ok (.if_icmp .lt 7, 3) := by decide +kernel
theorem dX0_add_8 : decode cX0_add 8 = .ok (.aload_n 0, 1) := by decide +kernel
theorem dX0_add_9 : decode cX0_add 9 = .ok (.invokevirtual 22, 3) := by decide +kernel
theorem dX0_add_12 : decode cX0_add 12 = .ok (.aload_n 0, 1) := by decide +kernel
theorem dX0_add_13 : decode cX0_add 13 = .ok (.getfield 18, 3) := by decide +kernel
theorem dX0_add_16 : decode cX0_add 16 = .ok (.ifCond .lt 38, 3) := by decide +kernel
theorem dX0_add_19 : decode cX0_add 19 = .ok (.aload_n 0, 1) := by decide +kernel
theorem dX0_add_20 : decode cX0_add 20 = .ok (.getfield 18, 3) := by decide +kernel
theorem dX0_add_23 : decode cX0_add 23 = .ok (.aload_n 0, 1) := by decide +kernel
theorem dX0_add_24 : decode cX0_add 24 = .ok (.getfield 11, 3) := by decide +kernel
theorem dX0_add_27 : decode cX0_add 27 = .ok (.arraylength, 1) := by decide +kernel
theorem dX0_add_28 : decode cX0_add 28 = .ok (.if_icmp .ge 26, 3) := by decide +kernel
theorem dX0_add_31 : decode cX0_add 31 = .ok (.aload_n 0, 1) := by decide +kernel
theorem dX0_add_32 : decode cX0_add 32 = .ok (.getfield 11, 3) := by decide +kernel
theorem dX0_add_35 : decode cX0_add 35 = .ok (.aload_n 0, 1) := by decide +kernel
theorem dX0_add_36 : decode cX0_add 36 = .ok (.getfield 18, 3) := by decide +kernel
theorem dX0_add_39 : decode cX0_add 39 = .ok (.aaload, 1) := by decide +kernel
theorem dX0_add_40 : decode cX0_add 40 = .ok (.aload_n 1, 1) := by decide +kernel
theorem dX0_add_41 : decode cX0_add 41 = .ok (.invokevirtual 25, 3) := by decide +kernel
theorem dX0_add_44 : decode cX0_add 44 = .ok (.aload_n 0, 1) := by decide +kernel
theorem dX0_add_45 : decode cX0_add 45 = .ok (.dup, 1) := by decide +kernel
theorem dX0_add_46 : decode cX0_add 46 = .ok (.getfield 18, 3) := by decide +kernel
theorem dX0_add_49 : decode cX0_add 49 = .ok (.iconst 1, 1) := by decide +kernel
theorem dX0_add_50 : decode cX0_add 50 = .ok (.iadd, 1) := by decide +kernel
theorem dX0_add_51 : decode cX0_add 51 = .ok (.putfield 18, 3) := by decide +kernel
theorem dX0_add_54 : decode cX0_add 54 = .ok (.return_, 1) := by decide +kernel
theorem dX0_takeLatest_0 : decode cX0_takeLatest 0 = .ok (.aload_n 0, 1) := by decide +kernel
theorem dX0_takeLatest_1 : decode cX0_takeLatest 1 = .ok (.getfield 18, 3) := by decide +kernel
theorem dX0_takeLatest_4 : decode cX0_takeLatest 4 = .ok (.ifCond .le 15, 3) := by decide +kernel
theorem dX0_takeLatest_7 : decode cX0_takeLatest 7 = .ok (.aload_n 0, 1) := by decide +kernel
theorem dX0_takeLatest_8 : decode cX0_takeLatest 8 = .ok (.getfield 18, 3) := by decide +kernel
theorem dX0_takeLatest_11 : decode cX0_takeLatest 11 = .ok (.aload_n 0, 1) := by decide +kernel
theorem dX0_takeLatest_12 : decode cX0_takeLatest 12 = .ok (.getfield 11, 3) := by decide +kernel
theorem dX0_takeLatest_15 : decode cX0_takeLatest 15 = .ok (.arraylength, 1) := by decide +kernel
theorem dX0_takeLatest_16 : decode cX0_takeLatest 16 = .ok (.if_icmp .le 5, 3) := by decide +kernel
theorem dX0_takeLatest_19 : decode cX0_takeLatest 19 = .ok (.aconst_null, 1) := by decide +kernel
theorem dX0_takeLatest_20 : decode cX0_takeLatest 20 = .ok (.areturn, 1) := by decide +kernel
theorem dX0_takeLatest_21 : decode cX0_takeLatest 21 = .ok (.aload_n 0, 1) := by decide +kernel
theorem dX0_takeLatest_22 : decode cX0_takeLatest 22 = .ok (.dup, 1) := by decide +kernel
theorem dX0_takeLatest_23 : decode cX0_takeLatest 23 = .ok (.getfield 18, 3) := by decide +kernel
theorem dX0_takeLatest_26 : decode cX0_takeLatest 26 = .ok (.iconst 1, 1) := by decide +kernel
theorem dX0_takeLatest_27 : decode cX0_takeLatest 27 = .ok (.isub, 1) := by decide +kernel
theorem dX0_takeLatest_28 : decode cX0_takeLatest 28 = .ok (.putfield 18, 3) := by decide +kernel
theorem dX0_takeLatest_31 : decode cX0_takeLatest 31 = .ok (.aload_n 0, 1) := by decide +kernel
theorem dX0_takeLatest_32 : decode cX0_takeLatest 32 = .ok (.getfield 11, 3) := by decide +kernel
theorem dX0_takeLatest_35 : decode cX0_takeLatest 35 = .ok (.aload_n 0, 1) := by decide +kernel
theorem dX0_takeLatest_36 : decode cX0_takeLatest 36 = .ok (.getfield 18, 3) := by decide +kernel
theorem dX0_takeLatest_39 : decode cX0_takeLatest 39 = .ok (.aaload, 1) := by decide +kernel
theorem dX0_takeLatest_40 : decode cX0_takeLatest 40 = .ok (.areturn, 1) := by decide +kernel
theorem dX0_dropOldest_0 : decode cX0_dropOldest 0 = .ok (.aload_n 0, 1) := by decide +kernel
theorem dX0_dropOldest_1 : decode cX0_dropOldest 1 = .ok (.getfield 11, 3) := by decide +kernel
theorem dX0_dropOldest_4 : decode cX0_dropOldest 4 = .ok (.iconst 0, 1) := by decide +kernel
theorem dX0_dropOldest_5 : decode cX0_dropOldest 5 = .ok (.aaload, 1) := by decide +kernel
theorem dX0_dropOldest_6 : decode cX0_dropOldest 6 = .ok (.astore_n 1, 1) := by decide +kernel
theorem dX0_dropOldest_7 : decode cX0_dropOldest 7 = .ok (.iconst 1, 1) := by decide +kernel
theorem dX0_dropOldest_8 : decode cX0_dropOldest 8 = .ok (.istore_n 2, 1) := by decide +kernel
theorem dX0_dropOldest_9 : decode cX0_dropOldest 9 = .ok (.iload_n 2, 1) := by decide +kernel
theorem dX0_dropOldest_10 : decode cX0_dropOldest 10 = .ok (.iconst 5, 1) := by decide +kernel
theorem dX0_dropOldest_11 : decode cX0_dropOldest 11 = .ok (.if_icmp .ge 23, 3) := by decide +kernel
theorem dX0_dropOldest_14 : decode cX0_dropOldest 14 = .ok (.aload_n 0, 1) := by decide +kernel
theorem dX0_dropOldest_15 : decode cX0_dropOldest 15 = .ok (.getfield 11, 3) := by decide +kernel
theorem dX0_dropOldest_18 : decode cX0_dropOldest 18 = .ok (.iload_n 2, 1) := by decide +kernel
theorem dX0_dropOldest_19 : decode cX0_dropOldest 19 = .ok (.iconst 1, 1) := by decide +kernel
theorem dX0_dropOldest_20 : decode cX0_dropOldest 20 = .ok (.isub, 1) := by decide +kernel
theorem dX0_dropOldest_21 : decode cX0_dropOldest 21 = .ok (.aload_n 0, 1) := by decide +kernel
theorem dX0_dropOldest_22 : decode cX0_dropOldest 22 = .ok (.getfield 11, 3) := by decide +kernel
theorem dX0_dropOldest_25 : decode cX0_dropOldest 25 = .ok (.iload_n 2, 1) := by decide +kernel
theorem dX0_dropOldest_26 : decode cX0_dropOldest 26 = .ok (.aaload, 1) := by decide +kernel
theorem dX0_dropOldest_27 : decode cX0_dropOldest 27 = .ok (.aastore, 1) := by decide +kernel
theorem dX0_dropOldest_28 : decode cX0_dropOldest 28 = .ok (.iinc 2 1, 3) := by decide +kernel
theorem dX0_dropOldest_31 : decode cX0_dropOldest 31 = .ok (.goto (-22), 3) := by decide +kernel
theorem dX0_dropOldest_34 : decode cX0_dropOldest 34 = .ok (.aload_n 0, 1) := by decide +kernel
theorem dX0_dropOldest_35 : decode cX0_dropOldest 35 = .ok (.getfield 11, 3) := by decide +kernel
theorem dX0_dropOldest_38 : decode cX0_dropOldest 38 = .ok (.iconst 4, 1) := by decide +kernel
theorem dX0_dropOldest_39 : decode cX0_dropOldest 39 = .ok (.aload_n 1, 1) := by decide +kernel
theorem dX0_dropOldest_40 : decode cX0_dropOldest 40 = .ok (.aastore, 1) := by decide +kernel
theorem dX0_dropOldest_41 : decode cX0_dropOldest 41 = .ok (.aload_n 0, 1) := by decide +kernel
theorem dX0_dropOldest_42 : decode cX0_dropOldest 42 = .ok (.iconst 4, 1) := by decide +kernel
theorem dX0_dropOldest_43 : decode cX0_dropOldest 43 = .ok (.putfield 18, 3) := by decide +kernel
theorem dX0_dropOldest_46 : decode cX0_dropOldest 46 = .ok (.return_, 1) := by decide +kernel
theorem dX1_init_0 : decode cX1_init 0 = .ok (.aload_n 0, 1) := by decide +kernel
theorem dX1_init_1 : decode cX1_init 1 = .ok (.invokespecial 3, 3) := by decide +kernel
theorem dX1_init_4 : decode cX1_init 4 = .ok (.aload_n 0, 1) := by decide +kernel
theorem dX1_init_5 : decode cX1_init 5 = .ok (.bipush 60, 2) := by decide +kernel
theorem dX1_init_7 : decode cX1_init 7 = .ok (.newarray .int, 2) := by decide +kernel
theorem dX1_init_9 : decode cX1_init 9 = .ok (.putfield 9, 3) := by decide +kernel
theorem dX1_init_12 : decode cX1_init 12 = .ok (.aload_n 0, 1) := by decide +kernel
theorem dX1_init_13 : decode cX1_init 13 = .ok (.new 15, 3) := by decide +kernel
theorem dX1_init_16 : decode cX1_init 16 = .ok (.dup, 1) := by decide +kernel
theorem dX1_init_17 : decode cX1_init 17 = .ok (.bipush 20, 2) := by decide +kernel
theorem dX1_init_19 : decode cX1_init 19 = .ok (.invokespecial 17, 3) := by decide +kernel
theorem dX1_init_22 : decode cX1_init 22 = .ok (.putfield 20, 3) := by decide +kernel
theorem dX1_init_25 : decode cX1_init 25 = .ok (.return_, 1) := by decide +kernel
theorem dX1_findFault_0 : decode cX1_findFault 0 = .ok (.aload_n 0, 1) := by decide +kernel
theorem dX1_findFault_1 : decode cX1_findFault 1 = .ok (.getfield 20, 3) := by decide +kernel
theorem dX1_findFault_4 : decode cX1_findFault 4 = .ok (.iconst 0, 1) := by decide +kernel
theorem dX1_findFault_5 : decode cX1_findFault 5 = .ok (.putfield 28, 3) := by decide +kernel
theorem dX1_findFault_8 : decode cX1_findFault 8 = .ok (.iconst 0, 1) := by decide +kernel
theorem dX1_findFault_9 : decode cX1_findFault 9 = .ok (.istore_n 1, 1) := by decide +kernel
theorem dX1_findFault_10 : decode cX1_findFault 10 = .ok (.iconst 0, 1) := by decide +kernel
theorem dX1_findFault_11 : decode cX1_findFault 11 = .ok (.istore_n 2, 1) := by decide +kernel
theorem dX1_findFault_12 : decode cX1_findFault 12 = .ok (.iload_n 2, 1) := by decide +kernel
theorem dX1_findFault_13 : decode cX1_findFault 13 = .ok (.aload_n 0, 1) := by decide +kernel
theorem dX1_findFault_14 : decode cX1_findFault 14 = .ok (.getfield 24, 3) := by decide +kernel
theorem dX1_findFault_17 : decode cX1_findFault 17 = .ok (.if_icmp .ge 37, 3) := by decide +kernel
theorem dX1_findFault_20 : decode cX1_findFault 20 = .ok (.iload_n 2, 1) := by decide +kernel
theorem dX1_findFault_21 : decode cX1_findFault 21 = .ok (.aload_n 0, 1) := by decide +kernel
theorem dX1_findFault_22 : decode cX1_findFault 22 = .ok (.getfield 9, 3) := by decide +kernel
theorem dX1_findFault_25 : decode cX1_findFault 25 = .ok (.arraylength, 1) := by decide +kernel
theorem dX1_findFault_26 : decode cX1_findFault 26 = .ok (.if_icmp .ge 28, 3) := by decide +kernel
theorem dX1_findFault_29 : decode cX1_findFault 29 = .ok (.aload_n 0, 1) := by decide +kernel
theorem dX1_findFault_30 : decode cX1_findFault 30 = .ok (.aload_n 0, 1) := by decide +kernel
theorem dX1_findFault_31 : decode cX1_findFault 31 = .ok (.getfield 9, 3) := by decide +kernel
theorem dX1_findFault_34 : decode cX1_findFault 34 = .ok (.iload_n 2, 1) := by decide +kernel
theorem dX1_findFault_35 : decode cX1_findFault 35 = .ok (.iaload, 1) := by decide +kernel
theorem dX1_findFault_36 : decode cX1_findFault 36 = .ok (.iload_n 1, 1) := by decide +kernel
theorem dX1_findFault_37 : decode cX1_findFault 37 = .ok (.invokevirtual 31, 3) := by decide +kernel
theorem dX1_findFault_40 : decode cX1_findFault 40 = .ok (.istore_n 1, 1) := by decide +kernel
theorem dX1_findFault_41 : decode cX1_findFault 41 = .ok (.iload_n 1, 1) := by decide +kernel
theorem dX1_findFault_42 : decode cX1_findFault 42 = .ok (.iconst 5, 1) := by decide +kernel
theorem dX1_findFault_43 : decode cX1_findFault 43 = .ok (.if_icmp .ne 5, 3) := by decide +kernel
theorem dX1_findFault_46 : decode cX1_findFault 46 = .ok (.iload_n 2, 1) := by decide +kernel
theorem dX1_findFault_47 : decode cX1_findFault 47 = .ok (.ireturn, 1) := by decide +kernel
theorem dX1_findFault_48 : decode cX1_findFault 48 = .ok (.iinc 2 1, 3) := by decide +kernel
theorem dX1_findFault_51 : decode cX1_findFault 51 = .ok (.goto (-39), 3) := by decide +kernel
theorem dX1_findFault_54 : decode cX1_findFault 54 = .ok (.iload_n 1, 1) := by decide +kernel
theorem dX1_findFault_55 : decode cX1_findFault 55 = .ok (.iconst 2, 1) := by decide +kernel
theorem dX1_findFault_56 : decode cX1_findFault 56 = .ok (.if_icmp .eq 8, 3) := by decide +kernel
theorem dX1_findFault_59 : decode cX1_findFault 59 = .ok (.iload_n 1, 1) := by decide +kernel
theorem dX1_findFault_60 : decode cX1_findFault 60 = .ok (.iconst 4, 1) := by decide +kernel
theorem dX1_findFault_61 : decode cX1_findFault 61 = .ok (.if_icmp .ne 7, 3) := by decide +kernel
theorem dX1_findFault_64 : decode cX1_findFault 64 = .ok (.iconst (-1), 1) := by decide +kernel
theorem dX1_findFault_65 : decode cX1_findFault 65 = .ok (.goto 7, 3) := by decide +kernel
theorem dX1_findFault_68 : decode cX1_findFault 68 = .ok (.aload_n 0, 1) := by decide +kernel
theorem dX1_findFault_69 : decode cX1_findFault 69 = .ok (.getfield 24, 3) := by decide +kernel
theorem dX1_findFault_72 : decode cX1_findFault 72 = .ok (.ireturn, 1) := by decide +kernel
theorem dX1_take_0 : decode cX1_take 0 = .ok (.iload_n 2, 1) := by decide +kernel
theorem dX1_take_1 : decode cX1_take 1 = .ok (.tableswitch 75 0 4 #[35, 41, 47, 63, 69], 35) := by decide +kernel
theorem dX1_take_36 : decode cX1_take 36 = .ok (.aload_n 0, 1) := by decide +kernel
theorem dX1_take_37 : decode cX1_take 37 = .ok (.iload_n 1, 1) := by decide +kernel
theorem dX1_take_38 : decode cX1_take 38 = .ok (.invokevirtual 35, 3) := by decide +kernel
theorem dX1_take_41 : decode cX1_take 41 = .ok (.ireturn, 1) := by decide +kernel
theorem dX1_take_42 : decode cX1_take 42 = .ok (.aload_n 0, 1) := by decide +kernel
theorem dX1_take_43 : decode cX1_take 43 = .ok (.iload_n 1, 1) := by decide +kernel
theorem dX1_take_44 : decode cX1_take 44 = .ok (.invokevirtual 39, 3) := by decide +kernel
theorem dX1_take_47 : decode cX1_take 47 = .ok (.ireturn, 1) := by decide +kernel
theorem dX1_take_48 : decode cX1_take 48 = .ok (.iload_n 1, 1) := by decide +kernel
theorem dX1_take_49 : decode cX1_take 49 = .ok (.bipush 33, 2) := by decide +kernel
theorem dX1_take_51 : decode cX1_take 51 = .ok (.if_icmp .ne 7, 3) := by decide +kernel
theorem dX1_take_54 : decode cX1_take 54 = .ok (.iconst 3, 1) := by decide +kernel
theorem dX1_take_55 : decode cX1_take 55 = .ok (.goto 8, 3) := by decide +kernel
theorem dX1_take_58 : decode cX1_take 58 = .ok (.aload_n 0, 1) := by decide +kernel
theorem dX1_take_59 : decode cX1_take 59 = .ok (.iload_n 1, 1) := by decide +kernel
theorem dX1_take_60 : decode cX1_take 60 = .ok (.invokevirtual 42, 3) := by decide +kernel
theorem dX1_take_63 : decode cX1_take 63 = .ok (.ireturn, 1) := by decide +kernel
theorem dX1_take_64 : decode cX1_take 64 = .ok (.aload_n 0, 1) := by decide +kernel
theorem dX1_take_65 : decode cX1_take 65 = .ok (.iload_n 1, 1) := by decide +kernel
theorem dX1_take_66 : decode cX1_take 66 = .ok (.invokevirtual 45, 3) := by decide +kernel
theorem dX1_take_69 : decode cX1_take 69 = .ok (.ireturn, 1) := by decide +kernel
theorem dX1_take_70 : decode cX1_take 70 = .ok (.aload_n 0, 1) := by decide +kernel
theorem dX1_take_71 : decode cX1_take 71 = .ok (.iload_n 1, 1) := by decide +kernel
theorem dX1_take_72 : decode cX1_take 72 = .ok (.invokevirtual 42, 3) := by decide +kernel
theorem dX1_take_75 : decode cX1_take 75 = .ok (.ireturn, 1) := by decide +kernel
theorem dX1_take_76 : decode cX1_take 76 = .ok (.iconst 5, 1) := by decide +kernel
theorem dX1_take_77 : decode cX1_take 77 = .ok (.ireturn, 1) := by decide +kernel
theorem dX1_takeLetter_0 : decode cX1_takeLetter 0 = .ok (.iload_n 1, 1) := by decide +kernel
theorem dX1_takeLetter_1 : decode cX1_takeLetter 1 = .ok (.lookupswitch 59 #[(98, 43), (114, 35), (115, 51)], 35) := by decide +kernel
theorem dX1_takeLetter_36 : decode cX1_takeLetter 36 = .ok (.aload_n 0, 1) := by decide +kernel
theorem dX1_takeLetter_37 : decode cX1_takeLetter 37 = .ok (.iconst 0, 1) := by decide +kernel
theorem dX1_takeLetter_38 : decode cX1_takeLetter 38 = .ok (.putfield 48, 3) := by decide +kernel
theorem dX1_takeLetter_41 : decode cX1_takeLetter 41 = .ok (.goto 21, 3) := by decide +kernel
theorem dX1_takeLetter_44 : decode cX1_takeLetter 44 = .ok (.aload_n 0, 1) := by decide +kernel
theorem dX1_takeLetter_45 : decode cX1_takeLetter 45 = .ok (.iconst 1, 1) := by decide +kernel
theorem dX1_takeLetter_46 : decode cX1_takeLetter 46 = .ok (.putfield 48, 3) := by decide +kernel
theorem dX1_takeLetter_49 : decode cX1_takeLetter 49 = .ok (.goto 13, 3) := by decide +kernel
theorem dX1_takeLetter_52 : decode cX1_takeLetter 52 = .ok (.aload_n 0, 1) := by decide +kernel
theorem dX1_takeLetter_53 : decode cX1_takeLetter 53 = .ok (.iconst 2, 1) := by decide +kernel
theorem dX1_takeLetter_54 : decode cX1_takeLetter 54 = .ok (.putfield 48, 3) := by decide +kernel
theorem dX1_takeLetter_57 : decode cX1_takeLetter 57 = .ok (.goto 5, 3) := by decide +kernel
theorem dX1_takeLetter_60 : decode cX1_takeLetter 60 = .ok (.iconst 5, 1) := by decide +kernel
theorem dX1_takeLetter_61 : decode cX1_takeLetter 61 = .ok (.ireturn, 1) := by decide +kernel
theorem dX1_takeLetter_62 : decode cX1_takeLetter 62 = .ok (.iconst 1, 1) := by decide +kernel
theorem dX1_takeLetter_63 : decode cX1_takeLetter 63 = .ok (.ireturn, 1) := by decide +kernel
theorem dX1_takeRosette_0 : decode cX1_takeRosette 0 = .ok (.iload_n 1, 1) := by decide +kernel
theorem dX1_takeRosette_1 : decode cX1_takeRosette 1 = .ok (.bipush 48, 2) := by decide +kernel
theorem dX1_takeRosette_3 : decode cX1_takeRosette 3 = .ok (.bipush 55, 2) := by decide +kernel
theorem dX1_takeRosette_5 : decode cX1_takeRosette 5 = .ok (.invokestatic 51, 3) := by decide +kernel
theorem dX1_takeRosette_8 : decode cX1_takeRosette 8 = .ok (.ifCond .ne 5, 3) := by decide +kernel
theorem dX1_takeRosette_11 : decode cX1_takeRosette 11 = .ok (.iconst 5, 1) := by decide +kernel
theorem dX1_takeRosette_12 : decode cX1_takeRosette 12 = .ok (.ireturn, 1) := by decide +kernel
theorem dX1_takeRosette_13 : decode cX1_takeRosette 13 = .ok (.aload_n 0, 1) := by decide +kernel
theorem dX1_takeRosette_14 : decode cX1_takeRosette 14 = .ok (.getfield 20, 3) := by decide +kernel
theorem dX1_takeRosette_17 : decode cX1_takeRosette 17 = .ok (.iconst 0, 1) := by decide +kernel
theorem dX1_takeRosette_18 : decode cX1_takeRosette 18 = .ok (.aload_n 0, 1) := by decide +kernel
theorem dX1_takeRosette_19 : decode cX1_takeRosette 19 = .ok (.getfield 48, 3) := by decide +kernel
theorem dX1_takeRosette_22 : decode cX1_takeRosette 22 = .ok (.iload_n 1, 1) := by decide +kernel
theorem dX1_takeRosette_23 : decode cX1_takeRosette 23 = .ok (.bipush 48, 2) := by decide +kernel
theorem dX1_takeRosette_25 : decode cX1_takeRosette 25 = .ok (.isub, 1) := by decide +kernel
theorem dX1_takeRosette_26 : decode cX1_takeRosette 26 = .ok (.iconst 5, 1) := by decide +kernel
theorem dX1_takeRosette_27 : decode cX1_takeRosette 27 = .ok (.invokevirtual 55, 3) := by decide +kernel
theorem dX1_takeRosette_30 : decode cX1_takeRosette 30 = .ok (.iconst 2, 1) := by decide +kernel
theorem dX1_takeRosette_31 : decode cX1_takeRosette 31 = .ok (.ireturn, 1) := by decide +kernel
theorem dX1_takeUrgency_0 : decode cX1_takeUrgency 0 = .ok (.iload_n 1, 1) := by decide +kernel
theorem dX1_takeUrgency_1 : decode cX1_takeUrgency 1 = .ok (.bipush 48, 2) := by decide +kernel
theorem dX1_takeUrgency_3 : decode cX1_takeUrgency 3 = .ok (.bipush 57, 2) := by decide +kernel
theorem dX1_takeUrgency_5 : decode cX1_takeUrgency 5 = .ok (.invokestatic 51, 3) := by decide +kernel
theorem dX1_takeUrgency_8 : decode cX1_takeUrgency 8 = .ok (.ifCond .ne 5, 3) := by decide +kernel
theorem dX1_takeUrgency_11 : decode cX1_takeUrgency 11 = .ok (.iconst 5, 1) := by decide +kernel
theorem dX1_takeUrgency_12 : decode cX1_takeUrgency 12 = .ok (.ireturn, 1) := by decide +kernel
theorem dX1_takeUrgency_13 : decode cX1_takeUrgency 13 = .ok (.aload_n 0, 1) := by decide +kernel
theorem dX1_takeUrgency_14 : decode cX1_takeUrgency 14 = .ok (.getfield 20, 3) := by decide +kernel
theorem dX1_takeUrgency_17 : decode cX1_takeUrgency 17 = .ok (.aload_n 0, 1) := by decide +kernel
theorem dX1_takeUrgency_18 : decode cX1_takeUrgency 18 = .ok (.getfield 20, 3) := by decide +kernel
theorem dX1_takeUrgency_21 : decode cX1_takeUrgency 21 = .ok (.getfield 28, 3) := by decide +kernel
theorem dX1_takeUrgency_24 : decode cX1_takeUrgency 24 = .ok (.iconst 1, 1) := by decide +kernel
theorem dX1_takeUrgency_25 : decode cX1_takeUrgency 25 = .ok (.isub, 1) := by decide +kernel
theorem dX1_takeUrgency_26 : decode cX1_takeUrgency 26 = .ok (.iconst 3, 1) := by decide +kernel
theorem dX1_takeUrgency_27 : decode cX1_takeUrgency 27 = .ok (.iload_n 1, 1) := by decide +kernel
theorem dX1_takeUrgency_28 : decode cX1_takeUrgency 28 = .ok (.bipush 48, 2) := by decide +kernel
theorem dX1_takeUrgency_30 : decode cX1_takeUrgency 30 = .ok (.isub, 1) := by decide +kernel
theorem dX1_takeUrgency_31 : decode cX1_takeUrgency 31 = .ok (.invokevirtual 59, 3) := by decide +kernel
theorem dX1_takeUrgency_34 : decode cX1_takeUrgency 34 = .ok (.iconst 4, 1) := by decide +kernel
theorem dX1_takeUrgency_35 : decode cX1_takeUrgency 35 = .ok (.ireturn, 1) := by decide +kernel
theorem dX1_takeComma_0 : decode cX1_takeComma 0 = .ok (.iload_n 1, 1) := by decide +kernel
theorem dX1_takeComma_1 : decode cX1_takeComma 1 = .ok (.bipush 44, 2) := by decide +kernel
theorem dX1_takeComma_3 : decode cX1_takeComma 3 = .ok (.if_icmp .ne 7, 3) := by decide +kernel
theorem dX1_takeComma_6 : decode cX1_takeComma 6 = .ok (.iconst 0, 1) := by decide +kernel
theorem dX1_takeComma_7 : decode cX1_takeComma 7 = .ok (.goto 4, 3) := by decide +kernel
theorem dX1_takeComma_10 : decode cX1_takeComma 10 = .ok (.iconst 5, 1) := by decide +kernel
theorem dX1_takeComma_11 : decode cX1_takeComma 11 = .ok (.ireturn, 1) := by decide +kernel
theorem dX2_init_0 : decode cX2_init 0 = .ok (.aload_n 0, 1) := by decide +kernel
theorem dX2_init_1 : decode cX2_init 1 = .ok (.invokespecial 3, 3) := by decide +kernel
theorem dX2_init_4 : decode cX2_init 4 = .ok (.aload_n 0, 1) := by decide +kernel
theorem dX2_init_5 : decode cX2_init 5 = .ok (.iconst 3, 1) := by decide +kernel
theorem dX2_init_6 : decode cX2_init 6 = .ok (.newarray .int, 2) := by decide +kernel
theorem dX2_init_8 : decode cX2_init 8 = .ok (.putfield 9, 3) := by decide +kernel
theorem dX2_init_11 : decode cX2_init 11 = .ok (.aload_n 0, 1) := by decide +kernel
theorem dX2_init_12 : decode cX2_init 12 = .ok (.iconst 3, 1) := by decide +kernel
theorem dX2_init_13 : decode cX2_init 13 = .ok (.newarray .int, 2) := by decide +kernel
theorem dX2_init_15 : decode cX2_init 15 = .ok (.putfield 15, 3) := by decide +kernel
theorem dX2_init_18 : decode cX2_init 18 = .ok (.aload_n 0, 1) := by decide +kernel
theorem dX2_init_19 : decode cX2_init 19 = .ok (.iconst 3, 1) := by decide +kernel
theorem dX2_init_20 : decode cX2_init 20 = .ok (.newarray .int, 2) := by decide +kernel
theorem dX2_init_22 : decode cX2_init 22 = .ok (.putfield 18, 3) := by decide +kernel
theorem dX2_init_25 : decode cX2_init 25 = .ok (.aload_n 0, 1) := by decide +kernel
theorem dX2_init_26 : decode cX2_init 26 = .ok (.iconst 3, 1) := by decide +kernel
theorem dX2_init_27 : decode cX2_init 27 = .ok (.newarray .int, 2) := by decide +kernel
theorem dX2_init_29 : decode cX2_init 29 = .ok (.putfield 21, 3) := by decide +kernel
theorem dX2_init_32 : decode cX2_init 32 = .ok (.aload_n 0, 1) := by decide +kernel
theorem dX2_init_33 : decode cX2_init 33 = .ok (.iconst 3, 1) := by decide +kernel
theorem dX2_init_34 : decode cX2_init 34 = .ok (.newarray .int, 2) := by decide +kernel
theorem dX2_init_36 : decode cX2_init 36 = .ok (.putfield 24, 3) := by decide +kernel
theorem dX2_init_39 : decode cX2_init 39 = .ok (.aload_n 0, 1) := by decide +kernel
theorem dX2_init_40 : decode cX2_init 40 = .ok (.iconst 3, 1) := by decide +kernel
theorem dX2_init_41 : decode cX2_init 41 = .ok (.newarray .int, 2) := by decide +kernel
theorem dX2_init_43 : decode cX2_init 43 = .ok (.putfield 27, 3) := by decide +kernel
theorem dX2_init_46 : decode cX2_init 46 = .ok (.return_, 1) := by decide +kernel
theorem dX2_take_0 : decode cX2_take 0 = .ok (.aload_n 0, 1) := by decide +kernel
theorem dX2_take_1 : decode cX2_take 1 = .ok (.aload_n 1, 1) := by decide +kernel
theorem dX2_take_2 : decode cX2_take 2 = .ok (.getfield 30, 3) := by decide +kernel
theorem dX2_take_5 : decode cX2_take 5 = .ok (.i2l, 1) := by decide +kernel
theorem dX2_take_6 : decode cX2_take 6 = .ok (.ldc2_w 36, 3) := by decide +kernel
theorem dX2_take_9 : decode cX2_take 9 = .ok (.lmul, 1) := by decide +kernel
theorem dX2_take_10 : decode cX2_take 10 = .ok (.aload_n 1, 1) := by decide +kernel
theorem dX2_take_11 : decode cX2_take 11 = .ok (.getfield 30, 3) := by decide +kernel
theorem dX2_take_14 : decode cX2_take 14 = .ok (.i2l, 1) := by decide +kernel
theorem dX2_take_15 : decode cX2_take 15 = .ok (.ldc2_w 38, 3) := by decide +kernel
theorem dX2_take_18 : decode cX2_take 18 = .ok (.iload_n 2, 1) := by decide +kernel
theorem dX2_take_19 : decode cX2_take 19 = .ok (.i2l, 1) := by decide +kernel
theorem dX2_take_20 : decode cX2_take 20 = .ok (.lmul, 1) := by decide +kernel
theorem dX2_take_21 : decode cX2_take 21 = .ok (.ladd, 1) := by decide +kernel
theorem dX2_take_22 : decode cX2_take 22 = .ok (.invokestatic 40, 3) := by decide +kernel
theorem dX2_take_25 : decode cX2_take 25 = .ok (.l2i, 1) := by decide +kernel
theorem dX2_take_26 : decode cX2_take 26 = .ok (.putfield 44, 3) := by decide +kernel
theorem dX2_take_29 : decode cX2_take 29 = .ok (.aload_n 0, 1) := by decide +kernel
theorem dX2_take_30 : decode cX2_take 30 = .ok (.iconst 0, 1) := by decide +kernel
theorem dX2_take_31 : decode cX2_take 31 = .ok (.putfield 47, 3) := by decide +kernel
theorem dX2_take_34 : decode cX2_take 34 = .ok (.aload_n 0, 1) := by decide +kernel
theorem dX2_take_35 : decode cX2_take 35 = .ok (.iconst 0, 1) := by decide +kernel
theorem dX2_take_36 : decode cX2_take 36 = .ok (.putfield 50, 3) := by decide +kernel
theorem dX2_take_39 : decode cX2_take 39 = .ok (.aload_n 0, 1) := by decide +kernel
theorem dX2_take_40 : decode cX2_take 40 = .ok (.aload_n 1, 1) := by decide +kernel
theorem dX2_take_41 : decode cX2_take 41 = .ok (.invokevirtual 54, 3) := by decide +kernel
theorem dX2_take_44 : decode cX2_take 44 = .ok (.iconst 0, 1) := by decide +kernel
theorem dX2_take_45 : decode cX2_take 45 = .ok (.istore_n 3, 1) := by decide +kernel
theorem dX2_take_46 : decode cX2_take 46 = .ok (.iload_n 3, 1) := by decide +kernel
theorem dX2_take_47 : decode cX2_take 47 = .ok (.iconst 3, 1) := by decide +kernel
theorem dX2_take_48 : decode cX2_take 48 = .ok (.if_icmp .ge 53, 3) := by decide +kernel
theorem dX2_take_51 : decode cX2_take 51 = .ok (.aload_n 0, 1) := by decide +kernel
theorem dX2_take_52 : decode cX2_take 52 = .ok (.aload_n 1, 1) := by decide +kernel
theorem dX2_take_53 : decode cX2_take 53 = .ok (.iload_n 3, 1) := by decide +kernel
theorem dX2_take_54 : decode cX2_take 54 = .ok (.invokevirtual 58, 3) := by decide +kernel
theorem dX2_take_57 : decode cX2_take 57 = .ok (.aload_n 0, 1) := by decide +kernel
theorem dX2_take_58 : decode cX2_take 58 = .ok (.getfield 27, 3) := by decide +kernel
theorem dX2_take_61 : decode cX2_take 61 = .ok (.iload_n 3, 1) := by decide +kernel
theorem dX2_take_62 : decode cX2_take 62 = .ok (.aload_n 0, 1) := by decide +kernel
theorem dX2_take_63 : decode cX2_take 63 = .ok (.getfield 18, 3) := by decide +kernel
theorem dX2_take_66 : decode cX2_take 66 = .ok (.iload_n 3, 1) := by decide +kernel
theorem dX2_take_67 : decode cX2_take 67 = .ok (.iaload, 1) := by decide +kernel
theorem dX2_take_68 : decode cX2_take 68 = .ok (.i2l, 1) := by decide +kernel
theorem dX2_take_69 : decode cX2_take 69 = .ok (.aload_n 1, 1) := by decide +kernel
theorem dX2_take_70 : decode cX2_take 70 = .ok (.getfield 62, 3) := by decide +kernel
theorem dX2_take_73 : decode cX2_take 73 = .ok (.iload_n 3, 1) := by decide +kernel
theorem dX2_take_74 : decode cX2_take 74 = .ok (.iaload, 1) := by decide +kernel
theorem dX2_take_75 : decode cX2_take 75 = .ok (.i2l, 1) := by decide +kernel
theorem dX2_take_76 : decode cX2_take 76 = .ok (.lmul, 1) := by decide +kernel
theorem dX2_take_77 : decode cX2_take 77 = .ok (.ldc2_w 38, 3) := by decide +kernel
theorem dX2_take_80 : decode cX2_take 80 = .ok (.ldiv, 1) := by decide +kernel
theorem dX2_take_81 : decode cX2_take 81 = .ok (.ldc2_w 65, 3) := by decide +kernel
theorem dX2_take_84 : decode cX2_take 84 = .ok (.lmul, 1) := by decide +kernel
theorem dX2_take_85 : decode cX2_take 85 = .ok (.aload_n 1, 1) := by decide +kernel
theorem dX2_take_86 : decode cX2_take 86 = .ok (.getfield 67, 3) := by decide +kernel
theorem dX2_take_89 : decode cX2_take 89 = .ok (.i2l, 1) := by decide +kernel
theorem dX2_take_90 : decode cX2_take 90 = .ok (.invokestatic 40, 3) := by decide +kernel
theorem dX2_take_93 : decode cX2_take 93 = .ok (.l2i, 1) := by decide +kernel
theorem dX2_take_94 : decode cX2_take 94 = .ok (.iastore, 1) := by decide +kernel
theorem dX2_take_95 : decode cX2_take 95 = .ok (.iinc 3 1, 3) := by decide +kernel
theorem dX2_take_98 : decode cX2_take 98 = .ok (.goto (-52), 3) := by decide +kernel
theorem dX2_take_101 : decode cX2_take 101 = .ok (.aload_n 1, 1) := by decide +kernel
theorem dX2_take_102 : decode cX2_take 102 = .ok (.getfield 70, 3) := by decide +kernel
theorem dX2_take_105 : decode cX2_take 105 = .ok (.ifCond .eq 10, 3) := by decide +kernel
theorem dX2_take_108 : decode cX2_take 108 = .ok (.aload_n 0, 1) := by decide +kernel
theorem dX2_take_109 : decode cX2_take 109 = .ok (.invokevirtual 73, 3) := by decide +kernel
theorem dX2_take_112 : decode cX2_take 112 = .ok (.goto 7, 3) := by decide +kernel
theorem dX2_take_115 : decode cX2_take 115 = .ok (.aload_n 0, 1) := by decide +kernel
theorem dX2_take_116 : decode cX2_take 116 = .ok (.invokevirtual 76, 3) := by decide +kernel
theorem dX2_take_119 : decode cX2_take 119 = .ok (.aload_n 0, 1) := by decide +kernel
theorem dX2_take_120 : decode cX2_take 120 = .ok (.invokevirtual 79, 3) := by decide +kernel
theorem dX2_take_123 : decode cX2_take 123 = .ok (.return_, 1) := by decide +kernel
theorem dX2_holdReadings_0 : decode cX2_holdReadings 0 = .ok (.aload_n 0, 1) := by decide +kernel
theorem dX2_holdReadings_1 : decode cX2_holdReadings 1 = .ok (.getfield 18, 3) := by decide +kernel
theorem dX2_holdReadings_4 : decode cX2_holdReadings 4 = .ok (.iconst 0, 1) := by decide +kernel
theorem dX2_holdReadings_5 : decode cX2_holdReadings 5 = .ok (.aload_n 0, 1) := by decide +kernel
theorem dX2_holdReadings_6 : decode cX2_holdReadings 6 = .ok (.getfield 21, 3) := by decide +kernel
theorem dX2_holdReadings_9 : decode cX2_holdReadings 9 = .ok (.iconst 0, 1) := by decide +kernel
theorem dX2_holdReadings_10 : decode cX2_holdReadings 10 = .ok (.iconst 3, 1) := by decide +kernel
theorem dX2_holdReadings_11 : decode cX2_holdReadings 11 = .ok (.invokestatic 82, 3) := by decide +kernel
theorem dX2_holdReadings_14 : decode cX2_holdReadings 14 = .ok (.return_, 1) := by decide +kernel
theorem dX2_readingsChanged_0 : decode cX2_readingsChanged 0 = .ok (.iconst 0, 1) := by decide +kernel
theorem dX2_readingsChanged_1 : decode cX2_readingsChanged 1 = .ok (.istore_n 1, 1) := by decide +kernel
theorem dX2_readingsChanged_2 : decode cX2_readingsChanged 2 = .ok (.iconst 0, 1) := by decide +kernel
theorem dX2_readingsChanged_3 : decode cX2_readingsChanged 3 = .ok (.istore_n 2, 1) := by decide +kernel
theorem dX2_readingsChanged_4 : decode cX2_readingsChanged 4 = .ok (.iload_n 2, 1) := by decide +kernel
theorem dX2_readingsChanged_5 : decode cX2_readingsChanged 5 = .ok (.iconst 3, 1) := by decide +kernel
theorem dX2_readingsChanged_6 : decode cX2_readingsChanged 6 = .ok (.if_icmp .ge 27, 3) := by decide +kernel
theorem dX2_readingsChanged_9 : decode cX2_readingsChanged 9 = .ok (.aload_n 0, 1) := by decide +kernel
theorem dX2_readingsChanged_10 : decode cX2_readingsChanged 10 = .ok (.getfield 18, 3) := by decide +kernel
theorem dX2_readingsChanged_13 : decode cX2_readingsChanged 13 = .ok (.iload_n 2, 1) := by decide +kernel
theorem dX2_readingsChanged_14 : decode cX2_readingsChanged 14 = .ok (.iaload, 1) := by decide +kernel
theorem dX2_readingsChanged_15 : decode cX2_readingsChanged 15 = .ok (.aload_n 0, 1) := by decide +kernel
theorem dX2_readingsChanged_16 : decode cX2_readingsChanged 16 = .ok (.getfield 21, 3) := by decide +kernel
theorem dX2_readingsChanged_19 : decode cX2_readingsChanged 19 = .ok (.iload_n 2, 1) := by decide +kernel
theorem dX2_readingsChanged_20 : decode cX2_readingsChanged 20 = .ok (.iaload, 1) := by decide +kernel
theorem dX2_readingsChanged_21 : decode cX2_readingsChanged 21 = .ok (.if_icmp .eq 6, 3) := by decide +kernel
theorem dX2_readingsChanged_24 : decode cX2_readingsChanged 24 = .ok (.iinc 1 1, 3) := by decide +kernel
theorem dX2_readingsChanged_27 : decode cX2_readingsChanged 27 = .ok (.iinc 2 1, 3) := by decide +kernel
theorem dX2_readingsChanged_30 : decode cX2_readingsChanged 30 = .ok (.goto (-26), 3) := by decide +kernel
theorem dX2_readingsChanged_33 : decode cX2_readingsChanged 33 = .ok (.iload_n 1, 1) := by decide +kernel
theorem dX2_readingsChanged_34 : decode cX2_readingsChanged 34 = .ok (.ireturn, 1) := by decide +kernel
theorem dX2_pullTo_0 : decode cX2_pullTo 0 = .ok (.iload_n 1, 1) := by decide +kernel
theorem dX2_pullTo_1 : decode cX2_pullTo 1 = .ok (.iconst 0, 1) := by decide +kernel
theorem dX2_pullTo_2 : decode cX2_pullTo 2 = .ok (.bipush 23, 2) := by decide +kernel
theorem dX2_pullTo_4 : decode cX2_pullTo 4 = .ok (.invokestatic 88, 3) := by decide +kernel
theorem dX2_pullTo_7 : decode cX2_pullTo 7 = .ok (.ifCond .ne 5, 3) := by decide +kernel
theorem dX2_pullTo_10 : decode cX2_pullTo 10 = .ok (.lconst 0, 1) := by decide +kernel
theorem dX2_pullTo_11 : decode cX2_pullTo 11 = .ok (.lreturn, 1) := by decide +kernel
theorem dX2_pullTo_12 : decode cX2_pullTo 12 = .ok (.aload_n 0, 1) := by decide +kernel
theorem dX2_pullTo_13 : decode cX2_pullTo 13 = .ok (.getfield 92, 3) := by decide +kernel
theorem dX2_pullTo_16 : decode cX2_pullTo 16 = .ok (.aload_n 0, 1) := by decide +kernel
theorem dX2_pullTo_17 : decode cX2_pullTo 17 = .ok (.getfield 95, 3) := by decide +kernel
theorem dX2_pullTo_20 : decode cX2_pullTo 20 = .ok (.isub, 1) := by decide +kernel
theorem dX2_pullTo_21 : decode cX2_pullTo 21 = .ok (.i2l, 1) := by decide +kernel
theorem dX2_pullTo_22 : decode cX2_pullTo 22 = .ok (.getstatic 98, 3) := by decide +kernel
theorem dX2_pullTo_25 : decode cX2_pullTo 25 = .ok (.iload_n 1, 1) := by decide +kernel
theorem dX2_pullTo_26 : decode cX2_pullTo 26 = .ok (.iaload, 1) := by decide +kernel
theorem dX2_pullTo_27 : decode cX2_pullTo 27 = .ok (.i2l, 1) := by decide +kernel
theorem dX2_pullTo_28 : decode cX2_pullTo 28 = .ok (.lmul, 1) := by decide +kernel
theorem dX2_pullTo_29 : decode cX2_pullTo 29 = .ok (.aload_n 0, 1) := by decide +kernel
theorem dX2_pullTo_30 : decode cX2_pullTo 30 = .ok (.getfield 101, 3) := by decide +kernel
theorem dX2_pullTo_33 : decode cX2_pullTo 33 = .ok (.i2l, 1) := by decide +kernel
theorem dX2_pullTo_34 : decode cX2_pullTo 34 = .ok (.getstatic 104, 3) := by decide +kernel
theorem dX2_pullTo_37 : decode cX2_pullTo 37 = .ok (.iload_n 1, 1) := by decide +kernel
theorem dX2_pullTo_38 : decode cX2_pullTo 38 = .ok (.iaload, 1) := by decide +kernel
theorem dX2_pullTo_39 : decode cX2_pullTo 39 = .ok (.i2l, 1) := by decide +kernel
theorem dX2_pullTo_40 : decode cX2_pullTo 40 = .ok (.lmul, 1) := by decide +kernel
theorem dX2_pullTo_41 : decode cX2_pullTo 41 = .ok (.ladd, 1) := by decide +kernel
theorem dX2_pullTo_42 : decode cX2_pullTo 42 = .ok (.lreturn, 1) := by decide +kernel
theorem dX2_findStrains_0 : decode cX2_findStrains 0 = .ok (.aload_n 1, 1) := by decide +kernel
theorem dX2_findStrains_1 : decode cX2_findStrains 1 = .ok (.getfield 70, 3) := by decide +kernel
theorem dX2_findStrains_4 : decode cX2_findStrains 4 = .ok (.ifCond .eq 61, 3) := by decide +kernel
theorem dX2_findStrains_7 : decode cX2_findStrains 7 = .ok (.aload_n 1, 1) := by decide +kernel
theorem dX2_findStrains_8 : decode cX2_findStrains 8 = .ok (.getfield 107, 3) := by decide +kernel
theorem dX2_findStrains_11 : decode cX2_findStrains 11 = .ok (.iconst 3, 1) := by decide +kernel
theorem dX2_findStrains_12 : decode cX2_findStrains 12 = .ok (.aload_n 1, 1) := by decide +kernel
theorem dX2_findStrains_13 : decode cX2_findStrains 13 = .ok (.getfield 108, 3) := by decide +kernel
theorem dX2_findStrains_16 : decode cX2_findStrains 16 = .ok (.imul, 1) := by decide +kernel
theorem dX2_findStrains_17 : decode cX2_findStrains 17 = .ok (.iadd, 1) := by decide +kernel
theorem dX2_findStrains_18 : decode cX2_findStrains 18 = .ok (.iconst 4, 1) := by decide +kernel
theorem dX2_findStrains_19 : decode cX2_findStrains 19 = .ok (.idiv, 1) := by decide +kernel
theorem dX2_findStrains_20 : decode cX2_findStrains 20 = .ok (.istore_n 2, 1) := by decide +kernel
theorem dX2_findStrains_21 : decode cX2_findStrains 21 = .ok (.aload_n 1, 1) := by decide +kernel
theorem dX2_findStrains_22 : decode cX2_findStrains 22 = .ok (.getfield 109, 3) := by decide +kernel
theorem dX2_findStrains_25 : decode cX2_findStrains 25 = .ok (.sipush 433, 3) := by decide +kernel
theorem dX2_findStrains_28 : decode cX2_findStrains 28 = .ok (.imul, 1) := by decide +kernel
theorem dX2_findStrains_29 : decode cX2_findStrains 29 = .ok (.sipush 1000, 3) := by decide +kernel
theorem dX2_findStrains_32 : decode cX2_findStrains 32 = .ok (.idiv, 1) := by decide +kernel
theorem dX2_findStrains_33 : decode cX2_findStrains 33 = .ok (.istore_n 3, 1) := by decide +kernel
theorem dX2_findStrains_34 : decode cX2_findStrains 34 = .ok (.aload_n 0, 1) := by decide +kernel
theorem dX2_findStrains_35 : decode cX2_findStrains 35 = .ok (.getfield 9, 3) := by decide +kernel
theorem dX2_findStrains_38 : decode cX2_findStrains 38 = .ok (.iconst 0, 1) := by decide +kernel
theorem dX2_findStrains_39 : decode cX2_findStrains 39 = .ok (.aload_n 1, 1) := by decide +kernel
theorem dX2_findStrains_40 : decode cX2_findStrains 40 = .ok (.getfield 107, 3) := by decide +kernel
theorem dX2_findStrains_43 : decode cX2_findStrains 43 = .ok (.iastore, 1) := by decide +kernel
theorem dX2_findStrains_44 : decode cX2_findStrains 44 = .ok (.aload_n 0, 1) := by decide +kernel
theorem dX2_findStrains_45 : decode cX2_findStrains 45 = .ok (.getfield 9, 3) := by decide +kernel
theorem dX2_findStrains_48 : decode cX2_findStrains 48 = .ok (.iconst 1, 1) := by decide +kernel
theorem dX2_findStrains_49 : decode cX2_findStrains 49 = .ok (.iload_n 2, 1) := by decide +kernel
theorem dX2_findStrains_50 : decode cX2_findStrains 50 = .ok (.iload_n 3, 1) := by decide +kernel
theorem dX2_findStrains_51 : decode cX2_findStrains 51 = .ok (.iadd, 1) := by decide +kernel
theorem dX2_findStrains_52 : decode cX2_findStrains 52 = .ok (.iastore, 1) := by decide +kernel
theorem dX2_findStrains_53 : decode cX2_findStrains 53 = .ok (.aload_n 0, 1) := by decide +kernel
theorem dX2_findStrains_54 : decode cX2_findStrains 54 = .ok (.getfield 9, 3) := by decide +kernel
theorem dX2_findStrains_57 : decode cX2_findStrains 57 = .ok (.iconst 2, 1) := by decide +kernel
theorem dX2_findStrains_58 : decode cX2_findStrains 58 = .ok (.iload_n 2, 1) := by decide +kernel
theorem dX2_findStrains_59 : decode cX2_findStrains 59 = .ok (.iload_n 3, 1) := by decide +kernel
theorem dX2_findStrains_60 : decode cX2_findStrains 60 = .ok (.isub, 1) := by decide +kernel
theorem dX2_findStrains_61 : decode cX2_findStrains 61 = .ok (.iastore, 1) := by decide +kernel
theorem dX2_findStrains_62 : decode cX2_findStrains 62 = .ok (.goto 45, 3) := by decide +kernel
theorem dX2_findStrains_65 : decode cX2_findStrains 65 = .ok (.aload_n 0, 1) := by decide +kernel
theorem dX2_findStrains_66 : decode cX2_findStrains 66 = .ok (.getfield 9, 3) := by decide +kernel
theorem dX2_findStrains_69 : decode cX2_findStrains 69 = .ok (.iconst 0, 1) := by decide +kernel
theorem dX2_findStrains_70 : decode cX2_findStrains 70 = .ok (.aload_n 1, 1) := by decide +kernel
theorem dX2_findStrains_71 : decode cX2_findStrains 71 = .ok (.getfield 107, 3) := by decide +kernel
theorem dX2_findStrains_74 : decode cX2_findStrains 74 = .ok (.iastore, 1) := by decide +kernel
theorem dX2_findStrains_75 : decode cX2_findStrains 75 = .ok (.aload_n 0, 1) := by decide +kernel
theorem dX2_findStrains_76 : decode cX2_findStrains 76 = .ok (.getfield 9, 3) := by decide +kernel
theorem dX2_findStrains_79 : decode cX2_findStrains 79 = .ok (.iconst 1, 1) := by decide +kernel
theorem dX2_findStrains_80 : decode cX2_findStrains 80 = .ok (.aload_n 1, 1) := by decide +kernel
theorem dX2_findStrains_81 : decode cX2_findStrains 81 = .ok (.getfield 107, 3) := by decide +kernel
theorem dX2_findStrains_84 : decode cX2_findStrains 84 = .ok (.aload_n 1, 1) := by decide +kernel
theorem dX2_findStrains_85 : decode cX2_findStrains 85 = .ok (.getfield 108, 3) := by decide +kernel
theorem dX2_findStrains_88 : decode cX2_findStrains 88 = .ok (.iadd, 1) := by decide +kernel
theorem dX2_findStrains_89 : decode cX2_findStrains 89 = .ok (.aload_n 1, 1) := by decide +kernel
theorem dX2_findStrains_90 : decode cX2_findStrains 90 = .ok (.getfield 109, 3) := by decide +kernel
theorem dX2_findStrains_93 : decode cX2_findStrains 93 = .ok (.iadd, 1) := by decide +kernel
theorem dX2_findStrains_94 : decode cX2_findStrains 94 = .ok (.iconst 2, 1) := by decide +kernel
theorem dX2_findStrains_95 : decode cX2_findStrains 95 = .ok (.idiv, 1) := by decide +kernel
theorem dX2_findStrains_96 : decode cX2_findStrains 96 = .ok (.iastore, 1) := by decide +kernel
theorem dX2_findStrains_97 : decode cX2_findStrains 97 = .ok (.aload_n 0, 1) := by decide +kernel
theorem dX2_findStrains_98 : decode cX2_findStrains 98 = .ok (.getfield 9, 3) := by decide +kernel
theorem dX2_findStrains_101 : decode cX2_findStrains 101 = .ok (.iconst 2, 1) := by decide +kernel
theorem dX2_findStrains_102 : decode cX2_findStrains 102 = .ok (.aload_n 1, 1) := by decide +kernel
theorem dX2_findStrains_103 : decode cX2_findStrains 103 = .ok (.getfield 108, 3) := by decide +kernel
theorem dX2_findStrains_106 : decode cX2_findStrains 106 = .ok (.iastore, 1) := by decide +kernel
theorem dX2_findStrains_107 : decode cX2_findStrains 107 = .ok (.return_, 1) := by decide +kernel
theorem dX2_findSignal_0 : decode cX2_findSignal 0 = .ok (.aload_n 1, 1) := by decide +kernel
theorem dX2_findSignal_1 : decode cX2_findSignal 1 = .ok (.aload_n 1, 1) := by decide +kernel
theorem dX2_findSignal_2 : decode cX2_findSignal 2 = .ok (.getfield 110, 3) := by decide +kernel
theorem dX2_findSignal_5 : decode cX2_findSignal 5 = .ok (.iload_n 2, 1) := by decide +kernel
theorem dX2_findSignal_6 : decode cX2_findSignal 6 = .ok (.iaload, 1) := by decide +kernel
theorem dX2_findSignal_7 : decode cX2_findSignal 7 = .ok (.invokestatic 113, 3) := by decide +kernel
theorem dX2_findSignal_10 : decode cX2_findSignal 10 = .ok (.aload_n 1, 1) := by decide +kernel
theorem dX2_findSignal_11 : decode cX2_findSignal 11 = .ok (.aload_n 0, 1) := by decide +kernel
theorem dX2_findSignal_12 : decode cX2_findSignal 12 = .ok (.getfield 9, 3) := by decide +kernel
theorem dX2_findSignal_15 : decode cX2_findSignal 15 = .ok (.iload_n 2, 1) := by decide +kernel
theorem dX2_findSignal_16 : decode cX2_findSignal 16 = .ok (.iaload, 1) := by decide +kernel
theorem dX2_findSignal_17 : decode cX2_findSignal 17 = .ok (.aload_n 1, 1) := by decide +kernel
theorem dX2_findSignal_18 : decode cX2_findSignal 18 = .ok (.getfield 67, 3) := by decide +kernel
theorem dX2_findSignal_21 : decode cX2_findSignal 21 = .ok (.imul, 1) := by decide +kernel
theorem dX2_findSignal_22 : decode cX2_findSignal 22 = .ok (.bipush 100, 2) := by decide +kernel
theorem dX2_findSignal_24 : decode cX2_findSignal 24 = .ok (.idiv, 1) := by decide +kernel
theorem dX2_findSignal_25 : decode cX2_findSignal 25 = .ok (.invokestatic 113, 3) := by decide +kernel
theorem dX2_findSignal_28 : decode cX2_findSignal 28 = .ok (.iadd, 1) := by decide +kernel
theorem dX2_findSignal_29 : decode cX2_findSignal 29 = .ok (.aload_n 1, 1) := by decide +kernel
theorem dX2_findSignal_30 : decode cX2_findSignal 30 = .ok (.getfield 117, 3) := by decide +kernel
theorem dX2_findSignal_33 : decode cX2_findSignal 33 = .ok (.iload_n 2, 1) := by decide +kernel
theorem dX2_findSignal_34 : decode cX2_findSignal 34 = .ok (.iaload, 1) := by decide +kernel
theorem dX2_findSignal_35 : decode cX2_findSignal 35 = .ok (.isub, 1) := by decide +kernel
theorem dX2_findSignal_36 : decode cX2_findSignal 36 = .ok (.istore_n 3, 1) := by decide +kernel
theorem dX2_findSignal_37 : decode cX2_findSignal 37 = .ok (.iload_n 3, 1) := by decide +kernel
theorem dX2_findSignal_38 : decode cX2_findSignal 38 = .ok (.aload_n 1, 1) := by decide +kernel
theorem dX2_findSignal_39 : decode cX2_findSignal 39 = .ok (.aload_n 0, 1) := by decide +kernel
theorem dX2_findSignal_40 : decode cX2_findSignal 40 = .ok (.getfield 44, 3) := by decide +kernel
theorem dX2_findSignal_43 : decode cX2_findSignal 43 = .ok (.invokestatic 113, 3) := by decide +kernel
theorem dX2_findSignal_46 : decode cX2_findSignal 46 = .ok (.iadd, 1) := by decide +kernel
theorem dX2_findSignal_47 : decode cX2_findSignal 47 = .ok (.istore 4, 2) := by decide +kernel
theorem dX2_findSignal_49 : decode cX2_findSignal 49 = .ok (.aload_n 0, 1) := by decide +kernel
theorem dX2_findSignal_50 : decode cX2_findSignal 50 = .ok (.getfield 15, 3) := by decide +kernel
theorem dX2_findSignal_53 : decode cX2_findSignal 53 = .ok (.iload_n 2, 1) := by decide +kernel
theorem dX2_findSignal_54 : decode cX2_findSignal 54 = .ok (.aload_n 1, 1) := by decide +kernel
theorem dX2_findSignal_55 : decode cX2_findSignal 55 = .ok (.getfield 120, 3) := by decide +kernel
theorem dX2_findSignal_58 : decode cX2_findSignal 58 = .ok (.ifCond .eq 8, 3) := by decide +kernel
theorem dX2_findSignal_61 : decode cX2_findSignal 61 = .ok (.iload 4, 2) := by decide +kernel
theorem dX2_findSignal_63 : decode cX2_findSignal 63 = .ok (.goto 4, 3) := by decide +kernel
theorem dX2_findSignal_66 : decode cX2_findSignal 66 = .ok (.iload_n 3, 1) := by decide +kernel
theorem dX2_findSignal_67 : decode cX2_findSignal 67 = .ok (.iastore, 1) := by decide +kernel
theorem dX2_findSignal_68 : decode cX2_findSignal 68 = .ok (.aload_n 0, 1) := by decide +kernel
theorem dX2_findSignal_69 : decode cX2_findSignal 69 = .ok (.getfield 18, 3) := by decide +kernel
theorem dX2_findSignal_72 : decode cX2_findSignal 72 = .ok (.iload_n 2, 1) := by decide +kernel
theorem dX2_findSignal_73 : decode cX2_findSignal 73 = .ok (.aload_n 0, 1) := by decide +kernel
theorem dX2_findSignal_74 : decode cX2_findSignal 74 = .ok (.getfield 15, 3) := by decide +kernel
theorem dX2_findSignal_77 : decode cX2_findSignal 77 = .ok (.iload_n 2, 1) := by decide +kernel
theorem dX2_findSignal_78 : decode cX2_findSignal 78 = .ok (.iaload, 1) := by decide +kernel
theorem dX2_findSignal_79 : decode cX2_findSignal 79 = .ok (.invokestatic 123, 3) := by decide +kernel
theorem dX2_findSignal_82 : decode cX2_findSignal 82 = .ok (.iastore, 1) := by decide +kernel
theorem dX2_findSignal_83 : decode cX2_findSignal 83 = .ok (.aload_n 0, 1) := by decide +kernel
theorem dX2_findSignal_84 : decode cX2_findSignal 84 = .ok (.getfield 24, 3) := by decide +kernel
theorem dX2_findSignal_87 : decode cX2_findSignal 87 = .ok (.iload_n 2, 1) := by decide +kernel
theorem dX2_findSignal_88 : decode cX2_findSignal 88 = .ok (.iload 4, 2) := by decide +kernel
theorem dX2_findSignal_90 : decode cX2_findSignal 90 = .ok (.invokestatic 123, 3) := by decide +kernel
theorem dX2_findSignal_93 : decode cX2_findSignal 93 = .ok (.iload_n 3, 1) := by decide +kernel
theorem dX2_findSignal_94 : decode cX2_findSignal 94 = .ok (.invokestatic 123, 3) := by decide +kernel
theorem dX2_findSignal_97 : decode cX2_findSignal 97 = .ok (.isub, 1) := by decide +kernel
theorem dX2_findSignal_98 : decode cX2_findSignal 98 = .ok (.iastore, 1) := by decide +kernel
theorem dX2_findSignal_99 : decode cX2_findSignal 99 = .ok (.aload_n 0, 1) := by decide +kernel
theorem dX2_findSignal_100 : decode cX2_findSignal 100 = .ok (.getfield 15, 3) := by decide +kernel
theorem dX2_findSignal_103 : decode cX2_findSignal 103 = .ok (.iload_n 2, 1) := by decide +kernel
theorem dX2_findSignal_104 : decode cX2_findSignal 104 = .ok (.iaload, 1) := by decide +kernel
theorem dX2_findSignal_105 : decode cX2_findSignal 105 = .ok (.invokestatic 127, 3) := by decide +kernel
theorem dX2_findSignal_108 : decode cX2_findSignal 108 = .ok (.ifCond .eq 13, 3) := by decide +kernel
theorem dX2_findSignal_111 : decode cX2_findSignal 111 = .ok (.aload_n 0, 1) := by decide +kernel
theorem dX2_findSignal_112 : decode cX2_findSignal 112 = .ok (.dup, 1) := by decide +kernel
theorem dX2_findSignal_113 : decode cX2_findSignal 113 = .ok (.getfield 47, 3) := by decide +kernel
theorem dX2_findSignal_116 : decode cX2_findSignal 116 = .ok (.iconst 1, 1) := by decide +kernel
theorem dX2_findSignal_117 : decode cX2_findSignal 117 = .ok (.iadd, 1) := by decide +kernel
theorem dX2_findSignal_118 : decode cX2_findSignal 118 = .ok (.putfield 47, 3) := by decide +kernel
theorem dX2_findSignal_121 : decode cX2_findSignal 121 = .ok (.aload_n 0, 1) := by decide +kernel
theorem dX2_findSignal_122 : decode cX2_findSignal 122 = .ok (.aload_n 0, 1) := by decide +kernel
theorem dX2_findSignal_123 : decode cX2_findSignal 123 = .ok (.getfield 50, 3) := by decide +kernel
theorem dX2_findSignal_126 : decode cX2_findSignal 126 = .ok (.ifCond .ne 18, 3) := by decide +kernel
theorem dX2_findSignal_129 : decode cX2_findSignal 129 = .ok (.iload 4, 2) := by decide +kernel
theorem dX2_findSignal_131 : decode cX2_findSignal 131 = .ok (.invokestatic 127, 3) := by decide +kernel
theorem dX2_findSignal_134 : decode cX2_findSignal 134 = .ok (.ifCond .ne 10, 3) := by decide +kernel
theorem dX2_findSignal_137 : decode cX2_findSignal 137 = .ok (.iload_n 3, 1) := by decide +kernel
theorem dX2_findSignal_138 : decode cX2_findSignal 138 = .ok (.invokestatic 127, 3) := by decide +kernel
theorem dX2_findSignal_141 : decode cX2_findSignal 141 = .ok (.ifCond .eq 7, 3) := by decide +kernel
theorem dX2_findSignal_144 : decode cX2_findSignal 144 = .ok (.iconst 1, 1) := by decide +kernel
theorem dX2_findSignal_145 : decode cX2_findSignal 145 = .ok (.goto 4, 3) := by decide +kernel
theorem dX2_findSignal_148 : decode cX2_findSignal 148 = .ok (.iconst 0, 1) := by decide +kernel
theorem dX2_findSignal_149 : decode cX2_findSignal 149 = .ok (.putfield 50, 3) := by decide +kernel
theorem dX2_findSignal_152 : decode cX2_findSignal 152 = .ok (.return_, 1) := by decide +kernel
theorem dX2_comesOut_0 : decode cX2_comesOut 0 = .ok (.aload_n 0, 1) := by decide +kernel
theorem dX2_comesOut_1 : decode cX2_comesOut 1 = .ok (.getfield 30, 3) := by decide +kernel
theorem dX2_comesOut_4 : decode cX2_comesOut 4 = .ok (.i2l, 1) := by decide +kernel
theorem dX2_comesOut_5 : decode cX2_comesOut 5 = .ok (.ldc2_w 38, 3) := by decide +kernel
theorem dX2_comesOut_8 : decode cX2_comesOut 8 = .ok (.lmul, 1) := by decide +kernel
theorem dX2_comesOut_9 : decode cX2_comesOut 9 = .ok (.lstore_n 2, 1) := by decide +kernel
theorem dX2_comesOut_10 : decode cX2_comesOut 10 = .ok (.iload_n 1, 1) := by decide +kernel
theorem dX2_comesOut_11 : decode cX2_comesOut 11 = .ok (.i2l, 1) := by decide +kernel
theorem dX2_comesOut_12 : decode cX2_comesOut 12 = .ok (.lload_n 2, 1) := by decide +kernel
theorem dX2_comesOut_13 : decode cX2_comesOut 13 = .ok (.lmul, 1) := by decide +kernel
theorem dX2_comesOut_14 : decode cX2_comesOut 14 = .ok (.lload_n 2, 1) := by decide +kernel
theorem dX2_comesOut_15 : decode cX2_comesOut 15 = .ok (.aload_n 0, 1) := by decide +kernel
theorem dX2_comesOut_16 : decode cX2_comesOut 16 = .ok (.getfield 131, 3) := by decide +kernel
theorem dX2_comesOut_19 : decode cX2_comesOut 19 = .ok (.i2l, 1) := by decide +kernel
theorem dX2_comesOut_20 : decode cX2_comesOut 20 = .ok (.ladd, 1) := by decide +kernel
theorem dX2_comesOut_21 : decode cX2_comesOut 21 = .ok (.invokestatic 40, 3) := by decide +kernel
theorem dX2_comesOut_24 : decode cX2_comesOut 24 = .ok (.l2i, 1) := by decide +kernel
theorem dX2_comesOut_25 : decode cX2_comesOut 25 = .ok (.ireturn, 1) := by decide +kernel
theorem dX2_limited_0 : decode cX2_limited 0 = .ok (.sipush (-30000), 3) := by decide +kernel
theorem dX2_limited_3 : decode cX2_limited 3 = .ok (.sipush 30000, 3) := by decide +kernel
theorem dX2_limited_6 : decode cX2_limited 6 = .ok (.iload_n 0, 1) := by decide +kernel
theorem dX2_limited_7 : decode cX2_limited 7 = .ok (.invokestatic 134, 3) := by decide +kernel
theorem dX2_limited_10 : decode cX2_limited 10 = .ok (.invokestatic 140, 3) := by decide +kernel
theorem dX2_limited_13 : decode cX2_limited 13 = .ok (.ireturn, 1) := by decide +kernel
theorem dX2_isBeyond_0 : decode cX2_isBeyond 0 = .ok (.iload_n 0, 1) := by decide +kernel
theorem dX2_isBeyond_1 : decode cX2_isBeyond 1 = .ok (.sipush 30000, 3) := by decide +kernel
theorem dX2_isBeyond_4 : decode cX2_isBeyond 4 = .ok (.invokestatic 143, 3) := by decide +kernel
theorem dX2_isBeyond_7 : decode cX2_isBeyond 7 = .ok (.ifCond .ne 7, 3) := by decide +kernel
theorem dX2_isBeyond_10 : decode cX2_isBeyond 10 = .ok (.iconst 1, 1) := by decide +kernel
theorem dX2_isBeyond_11 : decode cX2_isBeyond 11 = .ok (.goto 4, 3) := by decide +kernel
theorem dX2_isBeyond_14 : decode cX2_isBeyond 14 = .ok (.iconst 0, 1) := by decide +kernel
theorem dX2_isBeyond_15 : decode cX2_isBeyond 15 = .ok (.ireturn, 1) := by decide +kernel
theorem dX2_findRightNumbers_0 : decode cX2_findRightNumbers 0 = .ok (.aload_n 0, 1) := by decide +kernel
theorem dX2_findRightNumbers_1 : decode cX2_findRightNumbers 1 = .ok (.aload_n 0, 1) := by decide +kernel
theorem dX2_findRightNumbers_2 : decode cX2_findRightNumbers 2 = .ok (.getfield 27, 3) := by decide +kernel
theorem dX2_findRightNumbers_5 : decode cX2_findRightNumbers 5 = .ok (.iconst 0, 1) := by decide +kernel
theorem dX2_findRightNumbers_6 : decode cX2_findRightNumbers 6 = .ok (.iaload, 1) := by decide +kernel
theorem dX2_findRightNumbers_7 : decode cX2_findRightNumbers 7 = .ok (.putfield 92, 3) := by decide +kernel
theorem dX2_findRightNumbers_10 : decode cX2_findRightNumbers 10 = .ok (.aload_n 0, 1) := by decide +kernel
theorem dX2_findRightNumbers_11 : decode cX2_findRightNumbers 11 = .ok (.aload_n 0, 1) := by decide +kernel
theorem dX2_findRightNumbers_12 : decode cX2_findRightNumbers 12 = .ok (.getfield 27, 3) := by decide +kernel
theorem dX2_findRightNumbers_15 : decode cX2_findRightNumbers 15 = .ok (.iconst 2, 1) := by decide +kernel
theorem dX2_findRightNumbers_16 : decode cX2_findRightNumbers 16 = .ok (.iaload, 1) := by decide +kernel
theorem dX2_findRightNumbers_17 : decode cX2_findRightNumbers 17 = .ok (.putfield 95, 3) := by decide +kernel
theorem dX2_findRightNumbers_20 : decode cX2_findRightNumbers 20 = .ok (.aload_n 0, 1) := by decide +kernel
theorem dX2_findRightNumbers_21 : decode cX2_findRightNumbers 21 = .ok (.iconst 2, 1) := by decide +kernel
theorem dX2_findRightNumbers_22 : decode cX2_findRightNumbers 22 = .ok (.aload_n 0, 1) := by decide +kernel
theorem dX2_findRightNumbers_23 : decode cX2_findRightNumbers 23 = .ok (.getfield 27, 3) := by decide +kernel
theorem dX2_findRightNumbers_26 : decode cX2_findRightNumbers 26 = .ok (.iconst 1, 1) := by decide +kernel
theorem dX2_findRightNumbers_27 : decode cX2_findRightNumbers 27 = .ok (.iaload, 1) := by decide +kernel
theorem dX2_findRightNumbers_28 : decode cX2_findRightNumbers 28 = .ok (.imul, 1) := by decide +kernel
theorem dX2_findRightNumbers_29 : decode cX2_findRightNumbers 29 = .ok (.aload_n 0, 1) := by decide +kernel
theorem dX2_findRightNumbers_30 : decode cX2_findRightNumbers 30 = .ok (.getfield 27, 3) := by decide +kernel
theorem dX2_findRightNumbers_33 : decode cX2_findRightNumbers 33 = .ok (.iconst 0, 1) := by decide +kernel
theorem dX2_findRightNumbers_34 : decode cX2_findRightNumbers 34 = .ok (.iaload, 1) := by decide +kernel
theorem dX2_findRightNumbers_35 : decode cX2_findRightNumbers 35 = .ok (.isub, 1) := by decide +kernel
theorem dX2_findRightNumbers_36 : decode cX2_findRightNumbers 36 = .ok (.aload_n 0, 1) := by decide +kernel
theorem dX2_findRightNumbers_37 : decode cX2_findRightNumbers 37 = .ok (.getfield 27, 3) := by decide +kernel
theorem dX2_findRightNumbers_40 : decode cX2_findRightNumbers 40 = .ok (.iconst 2, 1) := by decide +kernel
theorem dX2_findRightNumbers_41 : decode cX2_findRightNumbers 41 = .ok (.iaload, 1) := by decide +kernel
theorem dX2_findRightNumbers_42 : decode cX2_findRightNumbers 42 = .ok (.isub, 1) := by decide +kernel
theorem dX2_findRightNumbers_43 : decode cX2_findRightNumbers 43 = .ok (.putfield 101, 3) := by decide +kernel
theorem dX2_findRightNumbers_46 : decode cX2_findRightNumbers 46 = .ok (.return_, 1) := by decide +kernel
theorem dX2_findDeltaNumbers_0 : decode cX2_findDeltaNumbers 0 = .ok (.aload_n 0, 1) := by decide +kernel
theorem dX2_findDeltaNumbers_1 : decode cX2_findDeltaNumbers 1 = .ok (.aload_n 0, 1) := by decide +kernel
theorem dX2_findDeltaNumbers_2 : decode cX2_findDeltaNumbers 2 = .ok (.getfield 27, 3) := by decide +kernel
theorem dX2_findDeltaNumbers_5 : decode cX2_findDeltaNumbers 5 = .ok (.iconst 0, 1) := by decide +kernel
theorem dX2_findDeltaNumbers_6 : decode cX2_findDeltaNumbers 6 = .ok (.iaload, 1) := by decide +kernel
theorem dX2_findDeltaNumbers_7 : decode cX2_findDeltaNumbers 7 = .ok (.putfield 92, 3) := by decide +kernel
theorem dX2_findDeltaNumbers_10 : decode cX2_findDeltaNumbers 10 = .ok (.aload_n 0, 1) := by decide +kernel
theorem dX2_findDeltaNumbers_11 : decode cX2_findDeltaNumbers 11 = .ok (.iconst 2, 1) := by decide +kernel
theorem dX2_findDeltaNumbers_12 : decode cX2_findDeltaNumbers 12 = .ok (.aload_n 0, 1) := by decide +kernel
theorem dX2_findDeltaNumbers_13 : decode cX2_findDeltaNumbers 13 = .ok (.getfield 27, 3) := by decide +kernel
theorem dX2_findDeltaNumbers_16 : decode cX2_findDeltaNumbers 16 = .ok (.iconst 1, 1) := by decide +kernel
theorem dX2_findDeltaNumbers_17 : decode cX2_findDeltaNumbers 17 = .ok (.iaload, 1) := by decide +kernel
theorem dX2_findDeltaNumbers_18 : decode cX2_findDeltaNumbers 18 = .ok (.imul, 1) := by decide +kernel
theorem dX2_findDeltaNumbers_19 : decode cX2_findDeltaNumbers 19 = .ok (.iconst 2, 1) := by decide +kernel
theorem dX2_findDeltaNumbers_20 : decode cX2_findDeltaNumbers 20 = .ok (.aload_n 0, 1) := by decide +kernel
theorem dX2_findDeltaNumbers_21 : decode cX2_findDeltaNumbers 21 = .ok (.getfield 27, 3) := by decide +kernel
theorem dX2_findDeltaNumbers_24 : decode cX2_findDeltaNumbers 24 = .ok (.iconst 2, 1) := by decide +kernel
theorem dX2_findDeltaNumbers_25 : decode cX2_findDeltaNumbers 25 = .ok (.iaload, 1) := by decide +kernel
theorem dX2_findDeltaNumbers_26 : decode cX2_findDeltaNumbers 26 = .ok (.imul, 1) := by decide +kernel
theorem dX2_findDeltaNumbers_27 : decode cX2_findDeltaNumbers 27 = .ok (.iadd, 1) := by decide +kernel
theorem dX2_findDeltaNumbers_28 : decode cX2_findDeltaNumbers 28 = .ok (.aload_n 0, 1) := by decide +kernel
theorem dX2_findDeltaNumbers_29 : decode cX2_findDeltaNumbers 29 = .ok (.getfield 27, 3) := by decide +kernel
theorem dX2_findDeltaNumbers_32 : decode cX2_findDeltaNumbers 32 = .ok (.iconst 0, 1) := by decide +kernel
theorem dX2_findDeltaNumbers_33 : decode cX2_findDeltaNumbers 33 = .ok (.iaload, 1) := by decide +kernel
theorem dX2_findDeltaNumbers_34 : decode cX2_findDeltaNumbers 34 = .ok (.isub, 1) := by decide +kernel
theorem dX2_findDeltaNumbers_35 : decode cX2_findDeltaNumbers 35 = .ok (.iconst 3, 1) := by decide +kernel
theorem dX2_findDeltaNumbers_36 : decode cX2_findDeltaNumbers 36 = .ok (.idiv, 1) := by decide +kernel
theorem dX2_findDeltaNumbers_37 : decode cX2_findDeltaNumbers 37 = .ok (.putfield 95, 3) := by decide +kernel
theorem dX2_findDeltaNumbers_40 : decode cX2_findDeltaNumbers 40 = .ok (.aload_n 0, 1) := by decide +kernel
theorem dX2_findDeltaNumbers_41 : decode cX2_findDeltaNumbers 41 = .ok (.aload_n 0, 1) := by decide +kernel
theorem dX2_findDeltaNumbers_42 : decode cX2_findDeltaNumbers 42 = .ok (.getfield 27, 3) := by decide +kernel
theorem dX2_findDeltaNumbers_45 : decode cX2_findDeltaNumbers 45 = .ok (.iconst 1, 1) := by decide +kernel
theorem dX2_findDeltaNumbers_46 : decode cX2_findDeltaNumbers 46 = .ok (.iaload, 1) := by decide +kernel
theorem dX2_findDeltaNumbers_47 : decode cX2_findDeltaNumbers 47 = .ok (.aload_n 0, 1) := by decide +kernel
theorem dX2_findDeltaNumbers_48 : decode cX2_findDeltaNumbers 48 = .ok (.getfield 27, 3) := by decide +kernel
theorem dX2_findDeltaNumbers_51 : decode cX2_findDeltaNumbers 51 = .ok (.iconst 2, 1) := by decide +kernel
theorem dX2_findDeltaNumbers_52 : decode cX2_findDeltaNumbers 52 = .ok (.iaload, 1) := by decide +kernel
theorem dX2_findDeltaNumbers_53 : decode cX2_findDeltaNumbers 53 = .ok (.isub, 1) := by decide +kernel
theorem dX2_findDeltaNumbers_54 : decode cX2_findDeltaNumbers 54 = .ok (.i2l, 1) := by decide +kernel
theorem dX2_findDeltaNumbers_55 : decode cX2_findDeltaNumbers 55 = .ok (.ldc2_w 147, 3) := by decide +kernel
theorem dX2_findDeltaNumbers_58 : decode cX2_findDeltaNumbers 58 = .ok (.lmul, 1) := by decide +kernel
theorem dX2_findDeltaNumbers_59 : decode cX2_findDeltaNumbers 59 = .ok (.ldc2_w 149, 3) := by decide +kernel
theorem dX2_findDeltaNumbers_62 : decode cX2_findDeltaNumbers 62 = .ok (.ldiv, 1) := by decide +kernel
theorem dX2_findDeltaNumbers_63 : decode cX2_findDeltaNumbers 63 = .ok (.l2i, 1) := by decide +kernel
theorem dX2_findDeltaNumbers_64 : decode cX2_findDeltaNumbers 64 = .ok (.putfield 101, 3) := by decide +kernel
theorem dX2_findDeltaNumbers_67 : decode cX2_findDeltaNumbers 67 = .ok (.return_, 1) := by decide +kernel
theorem dX2_findPrincipal_0 : decode cX2_findPrincipal 0 = .ok (.aload_n 0, 1) := by decide +kernel
theorem dX2_findPrincipal_1 : decode cX2_findPrincipal 1 = .ok (.aload_n 0, 1) := by decide +kernel
theorem dX2_findPrincipal_2 : decode cX2_findPrincipal 2 = .ok (.getfield 92, 3) := by decide +kernel
theorem dX2_findPrincipal_5 : decode cX2_findPrincipal 5 = .ok (.aload_n 0, 1) := by decide +kernel
theorem dX2_findPrincipal_6 : decode cX2_findPrincipal 6 = .ok (.getfield 95, 3) := by decide +kernel
theorem dX2_findPrincipal_9 : decode cX2_findPrincipal 9 = .ok (.iadd, 1) := by decide +kernel
theorem dX2_findPrincipal_10 : decode cX2_findPrincipal 10 = .ok (.iconst 2, 1) := by decide +kernel
theorem dX2_findPrincipal_11 : decode cX2_findPrincipal 11 = .ok (.idiv, 1) := by decide +kernel
theorem dX2_findPrincipal_12 : decode cX2_findPrincipal 12 = .ok (.putfield 151, 3) := by decide +kernel
theorem dX2_findPrincipal_15 : decode cX2_findPrincipal 15 = .ok (.aload_n 0, 1) := by decide +kernel
theorem dX2_findPrincipal_16 : decode cX2_findPrincipal 16 = .ok (.iconst 0, 1) := by decide +kernel
theorem dX2_findPrincipal_17 : decode cX2_findPrincipal 17 = .ok (.putfield 154, 3) := by decide +kernel
theorem dX2_findPrincipal_20 : decode cX2_findPrincipal 20 = .ok (.aload_n 0, 1) := by decide +kernel
theorem dX2_findPrincipal_21 : decode cX2_findPrincipal 21 = .ok (.iconst 0, 1) := by decide +kernel
theorem dX2_findPrincipal_22 : decode cX2_findPrincipal 22 = .ok (.invokevirtual 157, 3) := by decide +kernel
theorem dX2_findPrincipal_25 : decode cX2_findPrincipal 25 = .ok (.lstore_n 1, 1) := by decide +kernel
theorem dX2_findPrincipal_26 : decode cX2_findPrincipal 26 = .ok (.iconst 1, 1) := by decide +kernel
theorem dX2_findPrincipal_27 : decode cX2_findPrincipal 27 = .ok (.istore_n 3, 1) := by decide +kernel
theorem dX2_findPrincipal_28 : decode cX2_findPrincipal 28 = .ok (.iload_n 3, 1) := by decide +kernel
theorem dX2_findPrincipal_29 : decode cX2_findPrincipal 29 = .ok (.bipush 24, 2) := by decide +kernel
theorem dX2_findPrincipal_31 : decode cX2_findPrincipal 31 = .ok (.if_icmp .ge 31, 3) := by decide +kernel
theorem dX2_findPrincipal_34 : decode cX2_findPrincipal 34 = .ok (.aload_n 0, 1) := by decide +kernel
theorem dX2_findPrincipal_35 : decode cX2_findPrincipal 35 = .ok (.iload_n 3, 1) := by decide +kernel
theorem dX2_findPrincipal_36 : decode cX2_findPrincipal 36 = .ok (.invokevirtual 157, 3) := by decide +kernel
theorem dX2_findPrincipal_39 : decode cX2_findPrincipal 39 = .ok (.lstore 4, 2) := by decide +kernel
theorem dX2_findPrincipal_41 : decode cX2_findPrincipal 41 = .ok (.lload 4, 2) := by decide +kernel
theorem dX2_findPrincipal_43 : decode cX2_findPrincipal 43 = .ok (.lload_n 1, 1) := by decide +kernel
theorem dX2_findPrincipal_44 : decode cX2_findPrincipal 44 = .ok (.lcmp, 1) := by decide +kernel
theorem dX2_findPrincipal_45 : decode cX2_findPrincipal 45 = .ok (.ifCond .le 11, 3) := by decide +kernel
theorem dX2_findPrincipal_48 : decode cX2_findPrincipal 48 = .ok (.aload_n 0, 1) := by decide +kernel
theorem dX2_findPrincipal_49 : decode cX2_findPrincipal 49 = .ok (.iload_n 3, 1) := by decide +kernel
theorem dX2_findPrincipal_50 : decode cX2_findPrincipal 50 = .ok (.putfield 154, 3) := by decide +kernel
theorem dX2_findPrincipal_53 : decode cX2_findPrincipal 53 = .ok (.lload 4, 2) := by decide +kernel
theorem dX2_findPrincipal_55 : decode cX2_findPrincipal 55 = .ok (.lstore_n 1, 1) := by decide +kernel
theorem dX2_findPrincipal_56 : decode cX2_findPrincipal 56 = .ok (.iinc 3 1, 3) := by decide +kernel
theorem dX2_findPrincipal_59 : decode cX2_findPrincipal 59 = .ok (.goto (-31), 3) := by decide +kernel
theorem dX2_findPrincipal_62 : decode cX2_findPrincipal 62 = .ok (.aload_n 0, 1) := by decide +kernel
theorem dX2_findPrincipal_63 : decode cX2_findPrincipal 63 = .ok (.lload_n 1, 1) := by decide +kernel
theorem dX2_findPrincipal_64 : decode cX2_findPrincipal 64 = .ok (.ldc2_w 161, 3) := by decide +kernel
theorem dX2_findPrincipal_67 : decode cX2_findPrincipal 67 = .ok (.ldiv, 1) := by decide +kernel
theorem dX2_findPrincipal_68 : decode cX2_findPrincipal 68 = .ok (.l2i, 1) := by decide +kernel
theorem dX2_findPrincipal_69 : decode cX2_findPrincipal 69 = .ok (.putfield 163, 3) := by decide +kernel
theorem dX2_findPrincipal_72 : decode cX2_findPrincipal 72 = .ok (.return_, 1) := by decide +kernel
theorem dX3_init_0 : decode cX3_init 0 = .ok (.aload_n 0, 1) := by decide +kernel
theorem dX3_init_1 : decode cX3_init 1 = .ok (.invokespecial 3, 3) := by decide +kernel
theorem dX3_init_4 : decode cX3_init 4 = .ok (.aload_n 0, 1) := by decide +kernel
theorem dX3_init_5 : decode cX3_init 5 = .ok (.bipush 20, 2) := by decide +kernel
theorem dX3_init_7 : decode cX3_init 7 = .ok (.newarray .boolean, 2) := by decide +kernel
theorem dX3_init_9 : decode cX3_init 9 = .ok (.putfield 9, 3) := by decide +kernel
theorem dX3_init_12 : decode cX3_init 12 = .ok (.return_, 1) := by decide +kernel
theorem dX3_begin_0 : decode cX3_begin 0 = .ok (.iconst 0, 1) := by decide +kernel
theorem dX3_begin_1 : decode cX3_begin 1 = .ok (.istore_n 2, 1) := by decide +kernel
theorem dX3_begin_2 : decode cX3_begin 2 = .ok (.iload_n 2, 1) := by decide +kernel
theorem dX3_begin_3 : decode cX3_begin 3 = .ok (.bipush 20, 2) := by decide +kernel
theorem dX3_begin_5 : decode cX3_begin 5 = .ok (.if_icmp .ge 16, 3) := by decide +kernel
theorem dX3_begin_8 : decode cX3_begin 8 = .ok (.aload_n 0, 1) := by decide +kernel
theorem dX3_begin_9 : decode cX3_begin 9 = .ok (.getfield 9, 3) := by decide +kernel
theorem dX3_begin_12 : decode cX3_begin 12 = .ok (.iload_n 2, 1) := by decide +kernel
theorem dX3_begin_13 : decode cX3_begin 13 = .ok (.iconst 0, 1) := by decide +kernel
theorem dX3_begin_14 : decode cX3_begin 14 = .ok (.bastore, 1) := by decide +kernel
theorem dX3_begin_15 : decode cX3_begin 15 = .ok (.iinc 2 1, 3) := by decide +kernel
theorem dX3_begin_18 : decode cX3_begin 18 = .ok (.goto (-16), 3) := by decide +kernel
theorem dX3_begin_21 : decode cX3_begin 21 = .ok (.aload_n 0, 1) := by decide +kernel
theorem dX3_begin_22 : decode cX3_begin 22 = .ok (.iconst (-1), 1) := by decide +kernel
theorem dX3_begin_23 : decode cX3_begin 23 = .ok (.putfield 15, 3) := by decide +kernel
theorem dX3_begin_26 : decode cX3_begin 26 = .ok (.aload_n 0, 1) := by decide +kernel
theorem dX3_begin_27 : decode cX3_begin 27 = .ok (.aload_n 1, 1) := by decide +kernel
theorem dX3_begin_28 : decode cX3_begin 28 = .ok (.getfield 19, 3) := by decide +kernel
theorem dX3_begin_31 : decode cX3_begin 31 = .ok (.putfield 24, 3) := by decide +kernel
theorem dX3_begin_34 : decode cX3_begin 34 = .ok (.aload_n 0, 1) := by decide +kernel
theorem dX3_begin_35 : decode cX3_begin 35 = .ok (.iconst 0, 1) := by decide +kernel
theorem dX3_begin_36 : decode cX3_begin 36 = .ok (.putfield 25, 3) := by decide +kernel
theorem dX3_begin_39 : decode cX3_begin 39 = .ok (.return_, 1) := by decide +kernel
theorem dX3_goOn_0 : decode cX3_goOn 0 = .ok (.aload_n 0, 1) := by decide +kernel
theorem dX3_goOn_1 : decode cX3_goOn 1 = .ok (.iconst (-1), 1) := by decide +kernel
theorem dX3_goOn_2 : decode cX3_goOn 2 = .ok (.putfield 15, 3) := by decide +kernel
theorem dX3_goOn_5 : decode cX3_goOn 5 = .ok (.iconst 0, 1) := by decide +kernel
theorem dX3_goOn_6 : decode cX3_goOn 6 = .ok (.istore_n 2, 1) := by decide +kernel
theorem dX3_goOn_7 : decode cX3_goOn 7 = .ok (.iload_n 2, 1) := by decide +kernel
theorem dX3_goOn_8 : decode cX3_goOn 8 = .ok (.aload_n 1, 1) := by decide +kernel
theorem dX3_goOn_9 : decode cX3_goOn 9 = .ok (.getfield 28, 3) := by decide +kernel
theorem dX3_goOn_12 : decode cX3_goOn 12 = .ok (.getfield 32, 3) := by decide +kernel
theorem dX3_goOn_15 : decode cX3_goOn 15 = .ok (.if_icmp .ge 49, 3) := by decide +kernel
theorem dX3_goOn_18 : decode cX3_goOn 18 = .ok (.iload_n 2, 1) := by decide +kernel
theorem dX3_goOn_19 : decode cX3_goOn 19 = .ok (.bipush 20, 2) := by decide +kernel
theorem dX3_goOn_21 : decode cX3_goOn 21 = .ok (.if_icmp .ge 43, 3) := by decide +kernel
theorem dX3_goOn_24 : decode cX3_goOn 24 = .ok (.aload_n 0, 1) := by decide +kernel
theorem dX3_goOn_25 : decode cX3_goOn 25 = .ok (.getfield 9, 3) := by decide +kernel
theorem dX3_goOn_28 : decode cX3_goOn 28 = .ok (.iload_n 2, 1) := by decide +kernel
theorem dX3_goOn_29 : decode cX3_goOn 29 = .ok (.baload, 1) := by decide +kernel
theorem dX3_goOn_30 : decode cX3_goOn 30 = .ok (.ifCond .ne 28, 3) := by decide +kernel
theorem dX3_goOn_33 : decode cX3_goOn 33 = .ok (.aload_n 0, 1) := by decide +kernel
theorem dX3_goOn_34 : decode cX3_goOn 34 = .ok (.getfield 15, 3) := by decide +kernel
theorem dX3_goOn_37 : decode cX3_goOn 37 = .ok (.ifCond .lt 16, 3) := by decide +kernel
theorem dX3_goOn_40 : decode cX3_goOn 40 = .ok (.aload_n 0, 1) := by decide +kernel
theorem dX3_goOn_41 : decode cX3_goOn 41 = .ok (.aload_n 1, 1) := by decide +kernel
theorem dX3_goOn_42 : decode cX3_goOn 42 = .ok (.iload_n 2, 1) := by decide +kernel
theorem dX3_goOn_43 : decode cX3_goOn 43 = .ok (.aload_n 0, 1) := by decide +kernel
theorem dX3_goOn_44 : decode cX3_goOn 44 = .ok (.getfield 15, 3) := by decide +kernel
theorem dX3_goOn_47 : decode cX3_goOn 47 = .ok (.invokevirtual 37, 3) := by decide +kernel
theorem dX3_goOn_50 : decode cX3_goOn 50 = .ok (.ifCond .eq 8, 3) := by decide +kernel
theorem dX3_goOn_53 : decode cX3_goOn 53 = .ok (.aload_n 0, 1) := by decide +kernel
theorem dX3_goOn_54 : decode cX3_goOn 54 = .ok (.iload_n 2, 1) := by decide +kernel
theorem dX3_goOn_55 : decode cX3_goOn 55 = .ok (.putfield 15, 3) := by decide +kernel
theorem dX3_goOn_58 : decode cX3_goOn 58 = .ok (.iinc 2 1, 3) := by decide +kernel
theorem dX3_goOn_61 : decode cX3_goOn 61 = .ok (.goto (-54), 3) := by decide +kernel
theorem dX3_goOn_64 : decode cX3_goOn 64 = .ok (.aload_n 0, 1) := by decide +kernel
theorem dX3_goOn_65 : decode cX3_goOn 65 = .ok (.getfield 15, 3) := by decide +kernel
theorem dX3_goOn_68 : decode cX3_goOn 68 = .ok (.ifCond .lt 53, 3) := by decide +kernel
theorem dX3_goOn_71 : decode cX3_goOn 71 = .ok (.aload_n 0, 1) := by decide +kernel
theorem dX3_goOn_72 : decode cX3_goOn 72 = .ok (.getfield 9, 3) := by decide +kernel
theorem dX3_goOn_75 : decode cX3_goOn 75 = .ok (.aload_n 0, 1) := by decide +kernel
theorem dX3_goOn_76 : decode cX3_goOn 76 = .ok (.getfield 15, 3) := by decide +kernel
theorem dX3_goOn_79 : decode cX3_goOn 79 = .ok (.iconst 1, 1) := by decide +kernel
theorem dX3_goOn_80 : decode cX3_goOn 80 = .ok (.bastore, 1) := by decide +kernel
theorem dX3_goOn_81 : decode cX3_goOn 81 = .ok (.aload_n 1, 1) := by decide +kernel
theorem dX3_goOn_82 : decode cX3_goOn 82 = .ok (.aload_n 1, 1) := by decide +kernel
theorem dX3_goOn_83 : decode cX3_goOn 83 = .ok (.getfield 28, 3) := by decide +kernel
theorem dX3_goOn_86 : decode cX3_goOn 86 = .ok (.aload_n 0, 1) := by decide +kernel
theorem dX3_goOn_87 : decode cX3_goOn 87 = .ok (.getfield 15, 3) := by decide +kernel
theorem dX3_goOn_90 : decode cX3_goOn 90 = .ok (.iconst 2, 1) := by decide +kernel
theorem dX3_goOn_91 : decode cX3_goOn 91 = .ok (.invokevirtual 41, 3) := by decide +kernel
theorem dX3_goOn_94 : decode cX3_goOn 94 = .ok (.invokevirtual 45, 3) := by decide +kernel
theorem dX3_goOn_97 : decode cX3_goOn 97 = .ok (.istore_n 2, 1) := by decide +kernel
theorem dX3_goOn_98 : decode cX3_goOn 98 = .ok (.aload_n 0, 1) := by decide +kernel
theorem dX3_goOn_99 : decode cX3_goOn 99 = .ok (.dup, 1) := by decide +kernel
theorem dX3_goOn_100 : decode cX3_goOn 100 = .ok (.getfield 25, 3) := by decide +kernel
theorem dX3_goOn_103 : decode cX3_goOn 103 = .ok (.iload_n 2, 1) := by decide +kernel
theorem dX3_goOn_104 : decode cX3_goOn 104 = .ok (.aload_n 0, 1) := by decide +kernel
theorem dX3_goOn_105 : decode cX3_goOn 105 = .ok (.getfield 24, 3) := by decide +kernel
theorem dX3_goOn_108 : decode cX3_goOn 108 = .ok (.isub, 1) := by decide +kernel
theorem dX3_goOn_109 : decode cX3_goOn 109 = .ok (.invokestatic 49, 3) := by decide +kernel
theorem dX3_goOn_112 : decode cX3_goOn 112 = .ok (.iadd, 1) := by decide +kernel
theorem dX3_goOn_113 : decode cX3_goOn 113 = .ok (.putfield 25, 3) := by decide +kernel
theorem dX3_goOn_116 : decode cX3_goOn 116 = .ok (.aload_n 0, 1) := by decide +kernel
theorem dX3_goOn_117 : decode cX3_goOn 117 = .ok (.iload_n 2, 1) := by decide +kernel
theorem dX3_goOn_118 : decode cX3_goOn 118 = .ok (.putfield 24, 3) := by decide +kernel
theorem dX3_goOn_121 : decode cX3_goOn 121 = .ok (.return_, 1) := by decide +kernel
theorem dX3_isAhead_0 : decode cX3_isAhead 0 = .ok (.aload_n 1, 1) := by decide +kernel
theorem dX3_isAhead_1 : decode cX3_isAhead 1 = .ok (.getfield 28, 3) := by decide +kernel
theorem dX3_isAhead_4 : decode cX3_isAhead 4 = .ok (.astore 4, 2) := by decide +kernel
theorem dX3_isAhead_6 : decode cX3_isAhead 6 = .ok (.aload 4, 2) := by decide +kernel
theorem dX3_isAhead_8 : decode cX3_isAhead 8 = .ok (.iload_n 2, 1) := by decide +kernel
theorem dX3_isAhead_9 : decode cX3_isAhead 9 = .ok (.iconst 3, 1) := by decide +kernel
theorem dX3_isAhead_10 : decode cX3_isAhead 10 = .ok (.invokevirtual 41, 3) := by decide +kernel
theorem dX3_isAhead_13 : decode cX3_isAhead 13 = .ok (.aload 4, 2) := by decide +kernel
theorem dX3_isAhead_15 : decode cX3_isAhead 15 = .ok (.iload_n 3, 1) := by decide +kernel
theorem dX3_isAhead_16 : decode cX3_isAhead 16 = .ok (.iconst 3, 1) := by decide +kernel
theorem dX3_isAhead_17 : decode cX3_isAhead 17 = .ok (.invokevirtual 41, 3) := by decide +kernel
theorem dX3_isAhead_20 : decode cX3_isAhead 20 = .ok (.isub, 1) := by decide +kernel
theorem dX3_isAhead_21 : decode cX3_isAhead 21 = .ok (.istore 5, 2) := by decide +kernel
theorem dX3_isAhead_23 : decode cX3_isAhead 23 = .ok (.iload 5, 2) := by decide +kernel
theorem dX3_isAhead_25 : decode cX3_isAhead 25 = .ok (.ifCond .eq 14, 3) := by decide +kernel
theorem dX3_isAhead_28 : decode cX3_isAhead 28 = .ok (.iload 5, 2) := by decide +kernel
theorem dX3_isAhead_30 : decode cX3_isAhead 30 = .ok (.ifCond .le 7, 3) := by decide +kernel
theorem dX3_isAhead_33 : decode cX3_isAhead 33 = .ok (.iconst 1, 1) := by decide +kernel
theorem dX3_isAhead_34 : decode cX3_isAhead 34 = .ok (.goto 4, 3) := by decide +kernel
theorem dX3_isAhead_37 : decode cX3_isAhead 37 = .ok (.iconst 0, 1) := by decide +kernel
theorem dX3_isAhead_38 : decode cX3_isAhead 38 = .ok (.ireturn, 1) := by decide +kernel
theorem dX3_isAhead_39 : decode cX3_isAhead 39 = .ok (.aload_n 0, 1) := by decide +kernel
theorem dX3_isAhead_40 : decode cX3_isAhead 40 = .ok (.aload_n 1, 1) := by decide +kernel
theorem dX3_isAhead_41 : decode cX3_isAhead 41 = .ok (.iload_n 2, 1) := by decide +kernel
theorem dX3_isAhead_42 : decode cX3_isAhead 42 = .ok (.invokevirtual 54, 3) := by decide +kernel
theorem dX3_isAhead_45 : decode cX3_isAhead 45 = .ok (.aload_n 0, 1) := by decide +kernel
theorem dX3_isAhead_46 : decode cX3_isAhead 46 = .ok (.aload_n 1, 1) := by decide +kernel
theorem dX3_isAhead_47 : decode cX3_isAhead 47 = .ok (.iload_n 3, 1) := by decide +kernel
theorem dX3_isAhead_48 : decode cX3_isAhead 48 = .ok (.invokevirtual 54, 3) := by decide +kernel
theorem dX3_isAhead_51 : decode cX3_isAhead 51 = .ok (.isub, 1) := by decide +kernel
theorem dX3_isAhead_52 : decode cX3_isAhead 52 = .ok (.istore 6, 2) := by decide +kernel
theorem dX3_isAhead_54 : decode cX3_isAhead 54 = .ok (.iload 6, 2) := by decide +kernel
theorem dX3_isAhead_56 : decode cX3_isAhead 56 = .ok (.ifCond .eq 14, 3) := by decide +kernel
theorem dX3_isAhead_59 : decode cX3_isAhead 59 = .ok (.iload 6, 2) := by decide +kernel
theorem dX3_isAhead_61 : decode cX3_isAhead 61 = .ok (.ifCond .ge 7, 3) := by decide +kernel
theorem dX3_isAhead_64 : decode cX3_isAhead 64 = .ok (.iconst 1, 1) := by decide +kernel
theorem dX3_isAhead_65 : decode cX3_isAhead 65 = .ok (.goto 4, 3) := by decide +kernel
theorem dX3_isAhead_68 : decode cX3_isAhead 68 = .ok (.iconst 0, 1) := by decide +kernel
theorem dX3_isAhead_69 : decode cX3_isAhead 69 = .ok (.ireturn, 1) := by decide +kernel
theorem dX3_isAhead_70 : decode cX3_isAhead 70 = .ok (.aload 4, 2) := by decide +kernel
theorem dX3_isAhead_72 : decode cX3_isAhead 72 = .ok (.iload_n 2, 1) := by decide +kernel
theorem dX3_isAhead_73 : decode cX3_isAhead 73 = .ok (.iconst 0, 1) := by decide +kernel
theorem dX3_isAhead_74 : decode cX3_isAhead 74 = .ok (.invokevirtual 41, 3) := by decide +kernel
theorem dX3_isAhead_77 : decode cX3_isAhead 77 = .ok (.aload 4, 2) := by decide +kernel
theorem dX3_isAhead_79 : decode cX3_isAhead 79 = .ok (.iload_n 3, 1) := by decide +kernel
theorem dX3_isAhead_80 : decode cX3_isAhead 80 = .ok (.iconst 0, 1) := by decide +kernel
theorem dX3_isAhead_81 : decode cX3_isAhead 81 = .ok (.invokevirtual 41, 3) := by decide +kernel
theorem dX3_isAhead_84 : decode cX3_isAhead 84 = .ok (.if_icmp .ge 7, 3) := by decide +kernel
theorem dX3_isAhead_87 : decode cX3_isAhead 87 = .ok (.iconst 1, 1) := by decide +kernel
theorem dX3_isAhead_88 : decode cX3_isAhead 88 = .ok (.goto 4, 3) := by decide +kernel
theorem dX3_isAhead_91 : decode cX3_isAhead 91 = .ok (.iconst 0, 1) := by decide +kernel
theorem dX3_isAhead_92 : decode cX3_isAhead 92 = .ok (.ireturn, 1) := by decide +kernel
theorem dX3_distance_0 : decode cX3_distance 0 = .ok (.aload_n 1, 1) := by decide +kernel
theorem dX3_distance_1 : decode cX3_distance 1 = .ok (.aload_n 1, 1) := by decide +kernel
theorem dX3_distance_2 : decode cX3_distance 2 = .ok (.getfield 28, 3) := by decide +kernel
theorem dX3_distance_5 : decode cX3_distance 5 = .ok (.iload_n 2, 1) := by decide +kernel
theorem dX3_distance_6 : decode cX3_distance 6 = .ok (.iconst 2, 1) := by decide +kernel
theorem dX3_distance_7 : decode cX3_distance 7 = .ok (.invokevirtual 41, 3) := by decide +kernel
theorem dX3_distance_10 : decode cX3_distance 10 = .ok (.invokevirtual 45, 3) := by decide +kernel
theorem dX3_distance_13 : decode cX3_distance 13 = .ok (.aload_n 0, 1) := by decide +kernel
theorem dX3_distance_14 : decode cX3_distance 14 = .ok (.getfield 24, 3) := by decide +kernel
theorem dX3_distance_17 : decode cX3_distance 17 = .ok (.isub, 1) := by decide +kernel
theorem dX3_distance_18 : decode cX3_distance 18 = .ok (.invokestatic 49, 3) := by decide +kernel
theorem dX3_distance_21 : decode cX3_distance 21 = .ok (.ireturn, 1) := by decide +kernel
theorem dX4_init_0 : decode cX4_init 0 = .ok (.aload_n 0, 1) := by decide +kernel
theorem dX4_init_1 : decode cX4_init 1 = .ok (.invokespecial 3, 3) := by decide +kernel
theorem dX4_init_4 : decode cX4_init 4 = .ok (.aload_n 0, 1) := by decide +kernel
theorem dX4_init_5 : decode cX4_init 5 = .ok (.iconst 3, 1) := by decide +kernel
theorem dX4_init_6 : decode cX4_init 6 = .ok (.newarray .int, 2) := by decide +kernel
theorem dX4_init_8 : decode cX4_init 8 = .ok (.putfield 9, 3) := by decide +kernel
theorem dX4_init_11 : decode cX4_init 11 = .ok (.aload_n 0, 1) := by decide +kernel
theorem dX4_init_12 : decode cX4_init 12 = .ok (.iconst 3, 1) := by decide +kernel
theorem dX4_init_13 : decode cX4_init 13 = .ok (.newarray .int, 2) := by decide +kernel
theorem dX4_init_15 : decode cX4_init 15 = .ok (.putfield 15, 3) := by decide +kernel
theorem dX4_init_18 : decode cX4_init 18 = .ok (.aload_n 0, 1) := by decide +kernel
theorem dX4_init_19 : decode cX4_init 19 = .ok (.iconst 3, 1) := by decide +kernel
theorem dX4_init_20 : decode cX4_init 20 = .ok (.newarray .int, 2) := by decide +kernel
theorem dX4_init_22 : decode cX4_init 22 = .ok (.putfield 18, 3) := by decide +kernel
theorem dX4_init_25 : decode cX4_init 25 = .ok (.return_, 1) := by decide +kernel
theorem dX4_begin_0 : decode cX4_begin 0 = .ok (.aload_n 0, 1) := by decide +kernel
theorem dX4_begin_1 : decode cX4_begin 1 = .ok (.iload_n 1, 1) := by decide +kernel
theorem dX4_begin_2 : decode cX4_begin 2 = .ok (.putfield 21, 3) := by decide +kernel
theorem dX4_begin_5 : decode cX4_begin 5 = .ok (.aload_n 0, 1) := by decide +kernel
theorem dX4_begin_6 : decode cX4_begin 6 = .ok (.iload_n 2, 1) := by decide +kernel
theorem dX4_begin_7 : decode cX4_begin 7 = .ok (.putfield 25, 3) := by decide +kernel
theorem dX4_begin_10 : decode cX4_begin 10 = .ok (.aload_n 0, 1) := by decide +kernel
theorem dX4_begin_11 : decode cX4_begin 11 = .ok (.iload_n 3, 1) := by decide +kernel
theorem dX4_begin_12 : decode cX4_begin 12 = .ok (.putfield 29, 3) := by decide +kernel
theorem dX4_begin_15 : decode cX4_begin 15 = .ok (.aload_n 0, 1) := by decide +kernel
theorem dX4_begin_16 : decode cX4_begin 16 = .ok (.iload 4, 2) := by decide +kernel
theorem dX4_begin_18 : decode cX4_begin 18 = .ok (.putfield 32, 3) := by decide +kernel
theorem dX4_begin_21 : decode cX4_begin 21 = .ok (.aload_n 0, 1) := by decide +kernel
theorem dX4_begin_22 : decode cX4_begin 22 = .ok (.iconst 0, 1) := by decide +kernel
theorem dX4_begin_23 : decode cX4_begin 23 = .ok (.putfield 35, 3) := by decide +kernel
theorem dX4_begin_26 : decode cX4_begin 26 = .ok (.aload_n 0, 1) := by decide +kernel
theorem dX4_begin_27 : decode cX4_begin 27 = .ok (.iconst 0, 1) := by decide +kernel
theorem dX4_begin_28 : decode cX4_begin 28 = .ok (.putfield 38, 3) := by decide +kernel
theorem dX4_begin_31 : decode cX4_begin 31 = .ok (.aload_n 0, 1) := by decide +kernel
theorem dX4_begin_32 : decode cX4_begin 32 = .ok (.iconst 0, 1) := by decide +kernel
theorem dX4_begin_33 : decode cX4_begin 33 = .ok (.putfield 41, 3) := by decide +kernel
theorem dX4_begin_36 : decode cX4_begin 36 = .ok (.aload_n 0, 1) := by decide +kernel
theorem dX4_begin_37 : decode cX4_begin 37 = .ok (.iconst 0, 1) := by decide +kernel
theorem dX4_begin_38 : decode cX4_begin 38 = .ok (.putfield 44, 3) := by decide +kernel
theorem dX4_begin_41 : decode cX4_begin 41 = .ok (.aload_n 0, 1) := by decide +kernel
theorem dX4_begin_42 : decode cX4_begin 42 = .ok (.iconst 0, 1) := by decide +kernel
theorem dX4_begin_43 : decode cX4_begin 43 = .ok (.putfield 47, 3) := by decide +kernel
theorem dX4_begin_46 : decode cX4_begin 46 = .ok (.iconst 0, 1) := by decide +kernel
theorem dX4_begin_47 : decode cX4_begin 47 = .ok (.istore 5, 2) := by decide +kernel
theorem dX4_begin_49 : decode cX4_begin 49 = .ok (.iload 5, 2) := by decide +kernel
theorem dX4_begin_51 : decode cX4_begin 51 = .ok (.iconst 3, 1) := by decide +kernel
theorem dX4_begin_52 : decode cX4_begin 52 = .ok (.if_icmp .ge 35, 3) := by decide +kernel
theorem dX4_begin_55 : decode cX4_begin 55 = .ok (.aload_n 0, 1) := by decide +kernel
theorem dX4_begin_56 : decode cX4_begin 56 = .ok (.getfield 9, 3) := by decide +kernel
theorem dX4_begin_59 : decode cX4_begin 59 = .ok (.iload 5, 2) := by decide +kernel
theorem dX4_begin_61 : decode cX4_begin 61 = .ok (.iconst 0, 1) := by decide +kernel
theorem dX4_begin_62 : decode cX4_begin 62 = .ok (.iastore, 1) := by decide +kernel
theorem dX4_begin_63 : decode cX4_begin 63 = .ok (.aload_n 0, 1) := by decide +kernel
theorem dX4_begin_64 : decode cX4_begin 64 = .ok (.getfield 15, 3) := by decide +kernel
theorem dX4_begin_67 : decode cX4_begin 67 = .ok (.iload 5, 2) := by decide +kernel
theorem dX4_begin_69 : decode cX4_begin 69 = .ok (.iconst 0, 1) := by decide +kernel
theorem dX4_begin_70 : decode cX4_begin 70 = .ok (.iastore, 1) := by decide +kernel
theorem dX4_begin_71 : decode cX4_begin 71 = .ok (.aload_n 0, 1) := by decide +kernel
theorem dX4_begin_72 : decode cX4_begin 72 = .ok (.getfield 18, 3) := by decide +kernel
theorem dX4_begin_75 : decode cX4_begin 75 = .ok (.iload 5, 2) := by decide +kernel
theorem dX4_begin_77 : decode cX4_begin 77 = .ok (.sipush 1000, 3) := by decide +kernel
theorem dX4_begin_80 : decode cX4_begin 80 = .ok (.iastore, 1) := by decide +kernel
theorem dX4_begin_81 : decode cX4_begin 81 = .ok (.iinc 5 1, 3) := by decide +kernel
theorem dX4_begin_84 : decode cX4_begin 84 = .ok (.goto (-35), 3) := by decide +kernel
theorem dX4_begin_87 : decode cX4_begin 87 = .ok (.return_, 1) := by decide +kernel
theorem dX4_copyFrom_0 : decode cX4_copyFrom 0 = .ok (.aload_n 0, 1) := by decide +kernel
theorem dX4_copyFrom_1 : decode cX4_copyFrom 1 = .ok (.aload_n 1, 1) := by decide +kernel
theorem dX4_copyFrom_2 : decode cX4_copyFrom 2 = .ok (.getfield 21, 3) := by decide +kernel
theorem dX4_copyFrom_5 : decode cX4_copyFrom 5 = .ok (.putfield 21, 3) := by decide +kernel
theorem dX4_copyFrom_8 : decode cX4_copyFrom 8 = .ok (.aload_n 0, 1) := by decide +kernel
theorem dX4_copyFrom_9 : decode cX4_copyFrom 9 = .ok (.aload_n 1, 1) := by decide +kernel
theorem dX4_copyFrom_10 : decode cX4_copyFrom 10 = .ok (.getfield 25, 3) := by decide +kernel
theorem dX4_copyFrom_13 : decode cX4_copyFrom 13 = .ok (.putfield 25, 3) := by decide +kernel
theorem dX4_copyFrom_16 : decode cX4_copyFrom 16 = .ok (.aload_n 0, 1) := by decide +kernel
theorem dX4_copyFrom_17 : decode cX4_copyFrom 17 = .ok (.aload_n 1, 1) := by decide +kernel
theorem dX4_copyFrom_18 : decode cX4_copyFrom 18 = .ok (.getfield 29, 3) := by decide +kernel
theorem dX4_copyFrom_21 : decode cX4_copyFrom 21 = .ok (.putfield 29, 3) := by decide +kernel
theorem dX4_copyFrom_24 : decode cX4_copyFrom 24 = .ok (.aload_n 0, 1) := by decide +kernel
theorem dX4_copyFrom_25 : decode cX4_copyFrom 25 = .ok (.aload_n 1, 1) := by decide +kernel
theorem dX4_copyFrom_26 : decode cX4_copyFrom 26 = .ok (.getfield 32, 3) := by decide +kernel
theorem dX4_copyFrom_29 : decode cX4_copyFrom 29 = .ok (.putfield 32, 3) := by decide +kernel
theorem dX4_copyFrom_32 : decode cX4_copyFrom 32 = .ok (.aload_n 0, 1) := by decide +kernel
theorem dX4_copyFrom_33 : decode cX4_copyFrom 33 = .ok (.aload_n 1, 1) := by decide +kernel
theorem dX4_copyFrom_34 : decode cX4_copyFrom 34 = .ok (.getfield 35, 3) := by decide +kernel
theorem dX4_copyFrom_37 : decode cX4_copyFrom 37 = .ok (.putfield 35, 3) := by decide +kernel
theorem dX4_copyFrom_40 : decode cX4_copyFrom 40 = .ok (.aload_n 0, 1) := by decide +kernel
theorem dX4_copyFrom_41 : decode cX4_copyFrom 41 = .ok (.aload_n 1, 1) := by decide +kernel
theorem dX4_copyFrom_42 : decode cX4_copyFrom 42 = .ok (.getfield 38, 3) := by decide +kernel
theorem dX4_copyFrom_45 : decode cX4_copyFrom 45 = .ok (.putfield 38, 3) := by decide +kernel
theorem dX4_copyFrom_48 : decode cX4_copyFrom 48 = .ok (.aload_n 0, 1) := by decide +kernel
theorem dX4_copyFrom_49 : decode cX4_copyFrom 49 = .ok (.aload_n 1, 1) := by decide +kernel
theorem dX4_copyFrom_50 : decode cX4_copyFrom 50 = .ok (.getfield 41, 3) := by decide +kernel
theorem dX4_copyFrom_53 : decode cX4_copyFrom 53 = .ok (.putfield 41, 3) := by decide +kernel
theorem dX4_copyFrom_56 : decode cX4_copyFrom 56 = .ok (.aload_n 0, 1) := by decide +kernel
theorem dX4_copyFrom_57 : decode cX4_copyFrom 57 = .ok (.aload_n 1, 1) := by decide +kernel
theorem dX4_copyFrom_58 : decode cX4_copyFrom 58 = .ok (.getfield 44, 3) := by decide +kernel
theorem dX4_copyFrom_61 : decode cX4_copyFrom 61 = .ok (.putfield 44, 3) := by decide +kernel
theorem dX4_copyFrom_64 : decode cX4_copyFrom 64 = .ok (.aload_n 0, 1) := by decide +kernel
theorem dX4_copyFrom_65 : decode cX4_copyFrom 65 = .ok (.aload_n 1, 1) := by decide +kernel
theorem dX4_copyFrom_66 : decode cX4_copyFrom 66 = .ok (.getfield 47, 3) := by decide +kernel
theorem dX4_copyFrom_69 : decode cX4_copyFrom 69 = .ok (.putfield 47, 3) := by decide +kernel
theorem dX4_copyFrom_72 : decode cX4_copyFrom 72 = .ok (.iconst 0, 1) := by decide +kernel
theorem dX4_copyFrom_73 : decode cX4_copyFrom 73 = .ok (.istore_n 2, 1) := by decide +kernel
theorem dX4_copyFrom_74 : decode cX4_copyFrom 74 = .ok (.iload_n 2, 1) := by decide +kernel
theorem dX4_copyFrom_75 : decode cX4_copyFrom 75 = .ok (.iconst 3, 1) := by decide +kernel
theorem dX4_copyFrom_76 : decode cX4_copyFrom 76 = .ok (.if_icmp .ge 45, 3) := by decide +kernel
theorem dX4_copyFrom_79 : decode cX4_copyFrom 79 = .ok (.aload_n 0, 1) := by decide +kernel
theorem dX4_copyFrom_80 : decode cX4_copyFrom 80 = .ok (.getfield 9, 3) := by decide +kernel
theorem dX4_copyFrom_83 : decode cX4_copyFrom 83 = .ok (.iload_n 2, 1) := by decide +kernel
theorem dX4_copyFrom_84 : decode cX4_copyFrom 84 = .ok (.aload_n 1, 1) := by decide +kernel
theorem dX4_copyFrom_85 : decode cX4_copyFrom 85 = .ok (.getfield 9, 3) := by decide +kernel
theorem dX4_copyFrom_88 : decode cX4_copyFrom 88 = .ok (.iload_n 2, 1) := by decide +kernel
theorem dX4_copyFrom_89 : decode cX4_copyFrom 89 = .ok (.iaload, 1) := by decide +kernel
theorem dX4_copyFrom_90 : decode cX4_copyFrom 90 = .ok (.iastore, 1) := by decide +kernel
theorem dX4_copyFrom_91 : decode cX4_copyFrom 91 = .ok (.aload_n 0, 1) := by decide +kernel
theorem dX4_copyFrom_92 : decode cX4_copyFrom 92 = .ok (.getfield 15, 3) := by decide +kernel
theorem dX4_copyFrom_95 : decode cX4_copyFrom 95 = .ok (.iload_n 2, 1) := by decide +kernel
theorem dX4_copyFrom_96 : decode cX4_copyFrom 96 = .ok (.aload_n 1, 1) := by decide +kernel
theorem dX4_copyFrom_97 : decode cX4_copyFrom 97 = .ok (.getfield 15, 3) := by decide +kernel
theorem dX4_copyFrom_100 : decode cX4_copyFrom 100 = .ok (.iload_n 2, 1) := by decide +kernel
theorem dX4_copyFrom_101 : decode cX4_copyFrom 101 = .ok (.iaload, 1) := by decide +kernel
theorem dX4_copyFrom_102 : decode cX4_copyFrom 102 = .ok (.iastore, 1) := by decide +kernel
theorem dX4_copyFrom_103 : decode cX4_copyFrom 103 = .ok (.aload_n 0, 1) := by decide +kernel
theorem dX4_copyFrom_104 : decode cX4_copyFrom 104 = .ok (.getfield 18, 3) := by decide +kernel
theorem dX4_copyFrom_107 : decode cX4_copyFrom 107 = .ok (.iload_n 2, 1) := by decide +kernel
theorem dX4_copyFrom_108 : decode cX4_copyFrom 108 = .ok (.aload_n 1, 1) := by decide +kernel
theorem dX4_copyFrom_109 : decode cX4_copyFrom 109 = .ok (.getfield 18, 3) := by decide +kernel
theorem dX4_copyFrom_112 : decode cX4_copyFrom 112 = .ok (.iload_n 2, 1) := by decide +kernel
theorem dX4_copyFrom_113 : decode cX4_copyFrom 113 = .ok (.iaload, 1) := by decide +kernel
theorem dX4_copyFrom_114 : decode cX4_copyFrom 114 = .ok (.iastore, 1) := by decide +kernel
theorem dX4_copyFrom_115 : decode cX4_copyFrom 115 = .ok (.iinc 2 1, 3) := by decide +kernel
theorem dX4_copyFrom_118 : decode cX4_copyFrom 118 = .ok (.goto (-44), 3) := by decide +kernel
theorem dX4_copyFrom_121 : decode cX4_copyFrom 121 = .ok (.return_, 1) := by decide +kernel
theorem dX5_init_0 : decode cX5_init 0 = .ok (.aload_n 0, 1) := by decide +kernel
theorem dX5_init_1 : decode cX5_init 1 = .ok (.invokespecial 3, 3) := by decide +kernel
theorem dX5_init_4 : decode cX5_init 4 = .ok (.aload_n 0, 1) := by decide +kernel
theorem dX5_init_5 : decode cX5_init 5 = .ok (.iload_n 1, 1) := by decide +kernel
theorem dX5_init_6 : decode cX5_init 6 = .ok (.iconst 0, 1) := by decide +kernel
theorem dX5_init_7 : decode cX5_init 7 = .ok (.invokestatic 9, 3) := by decide +kernel
theorem dX5_init_10 : decode cX5_init 10 = .ok (.iconst 4, 1) := by decide +kernel
theorem dX5_init_11 : decode cX5_init 11 = .ok (.imul, 1) := by decide +kernel
theorem dX5_init_12 : decode cX5_init 12 = .ok (.newarray .int, 2) := by decide +kernel
theorem dX5_init_14 : decode cX5_init 14 = .ok (.putfield 15, 3) := by decide +kernel
theorem dX5_init_17 : decode cX5_init 17 = .ok (.return_, 1) := by decide +kernel
theorem dX5_add_0 : decode cX5_add 0 = .ok (.aload_n 0, 1) := by decide +kernel
theorem dX5_add_1 : decode cX5_add 1 = .ok (.getfield 21, 3) := by decide +kernel
theorem dX5_add_4 : decode cX5_add 4 = .ok (.iconst 4, 1) := by decide +kernel
theorem dX5_add_5 : decode cX5_add 5 = .ok (.imul, 1) := by decide +kernel
theorem dX5_add_6 : decode cX5_add 6 = .ok (.istore 5, 2) := by decide +kernel
theorem dX5_add_8 : decode cX5_add 8 = .ok (.iload 5, 2) := by decide +kernel
theorem dX5_add_10 : decode cX5_add 10 = .ok (.ifCond .lt 15, 3) := by decide +kernel
theorem dX5_add_13 : decode cX5_add 13 = .ok (.iload 5, 2) := by decide +kernel
theorem dX5_add_15 : decode cX5_add 15 = .ok (.iconst 4, 1) := by decide +kernel
theorem dX5_add_16 : decode cX5_add 16 = .ok (.iadd, 1) := by decide +kernel
theorem dX5_add_17 : decode cX5_add 17 = .ok (.aload_n 0, 1) := by decide +kernel
theorem dX5_add_18 : decode cX5_add 18 = .ok (.getfield 15, 3) := by decide +kernel
theorem dX5_add_21 : decode cX5_add 21 = .ok (.arraylength, 1) := by decide +kernel
theorem dX5_add_22 : decode cX5_add 22 = .ok (.if_icmp .le 4, 3) := by decide +kernel
theorem dX5_add_25 : decode cX5_add 25 = .ok (.return_, 1) := by decide +kernel
theorem dX5_add_26 : decode cX5_add 26 = .ok (.aload_n 0, 1) := by decide +kernel
theorem dX5_add_27 : decode cX5_add 27 = .ok (.getfield 15, 3) := by decide +kernel
theorem dX5_add_30 : decode cX5_add 30 = .ok (.iload 5, 2) := by decide +kernel
theorem dX5_add_32 : decode cX5_add 32 = .ok (.iload_n 1, 1) := by decide +kernel
theorem dX5_add_33 : decode cX5_add 33 = .ok (.iastore, 1) := by decide +kernel
theorem dX5_add_34 : decode cX5_add 34 = .ok (.aload_n 0, 1) := by decide +kernel
theorem dX5_add_35 : decode cX5_add 35 = .ok (.getfield 15, 3) := by decide +kernel
theorem dX5_add_38 : decode cX5_add 38 = .ok (.iload 5, 2) := by decide +kernel
theorem dX5_add_40 : decode cX5_add 40 = .ok (.iconst 1, 1) := by decide +kernel
theorem dX5_add_41 : decode cX5_add 41 = .ok (.iadd, 1) := by decide +kernel
theorem dX5_add_42 : decode cX5_add 42 = .ok (.iload_n 2, 1) := by decide +kernel
theorem dX5_add_43 : decode cX5_add 43 = .ok (.iastore, 1) := by decide +kernel
theorem dX5_add_44 : decode cX5_add 44 = .ok (.aload_n 0, 1) := by decide +kernel
theorem dX5_add_45 : decode cX5_add 45 = .ok (.getfield 15, 3) := by decide +kernel
theorem dX5_add_48 : decode cX5_add 48 = .ok (.iload 5, 2) := by decide +kernel
theorem dX5_add_50 : decode cX5_add 50 = .ok (.iconst 2, 1) := by decide +kernel
theorem dX5_add_51 : decode cX5_add 51 = .ok (.iadd, 1) := by decide +kernel
theorem dX5_add_52 : decode cX5_add 52 = .ok (.iload_n 3, 1) := by decide +kernel
theorem dX5_add_53 : decode cX5_add 53 = .ok (.iastore, 1) := by decide +kernel
theorem dX5_add_54 : decode cX5_add 54 = .ok (.aload_n 0, 1) := by decide +kernel
theorem dX5_add_55 : decode cX5_add 55 = .ok (.getfield 15, 3) := by decide +kernel
theorem dX5_add_58 : decode cX5_add 58 = .ok (.iload 5, 2) := by decide +kernel
theorem dX5_add_60 : decode cX5_add 60 = .ok (.iconst 3, 1) := by decide +kernel
theorem dX5_add_61 : decode cX5_add 61 = .ok (.iadd, 1) := by decide +kernel
theorem dX5_add_62 : decode cX5_add 62 = .ok (.iload 4, 2) := by decide +kernel
theorem dX5_add_64 : decode cX5_add 64 = .ok (.iastore, 1) := by decide +kernel
theorem dX5_add_65 : decode cX5_add 65 = .ok (.aload_n 0, 1) := by decide +kernel
theorem dX5_add_66 : decode cX5_add 66 = .ok (.dup, 1) := by decide +kernel
theorem dX5_add_67 : decode cX5_add 67 = .ok (.getfield 21, 3) := by decide +kernel
theorem dX5_add_70 : decode cX5_add 70 = .ok (.iconst 1, 1) := by decide +kernel
theorem dX5_add_71 : decode cX5_add 71 = .ok (.iadd, 1) := by decide +kernel
theorem dX5_add_72 : decode cX5_add 72 = .ok (.putfield 21, 3) := by decide +kernel
theorem dX5_add_75 : decode cX5_add 75 = .ok (.return_, 1) := by decide +kernel
theorem dX5_at_0 : decode cX5_at 0 = .ok (.iload_n 1, 1) := by decide +kernel
theorem dX5_at_1 : decode cX5_at 1 = .ok (.ifCond .lt 20, 3) := by decide +kernel
theorem dX5_at_4 : decode cX5_at 4 = .ok (.iload_n 1, 1) := by decide +kernel
theorem dX5_at_5 : decode cX5_at 5 = .ok (.aload_n 0, 1) := by decide +kernel
theorem dX5_at_6 : decode cX5_at 6 = .ok (.getfield 21, 3) := by decide +kernel
theorem dX5_at_9 : decode cX5_at 9 = .ok (.if_icmp .ge 12, 3) := by decide +kernel
theorem dX5_at_12 : decode cX5_at 12 = .ok (.iload_n 2, 1) := by decide +kernel
theorem dX5_at_13 : decode cX5_at 13 = .ok (.iconst 0, 1) := by decide +kernel
theorem dX5_at_14 : decode cX5_at 14 = .ok (.iconst 3, 1) := by decide +kernel
theorem dX5_at_15 : decode cX5_at 15 = .ok (.invokestatic 25, 3) := by decide +kernel
theorem dX5_at_18 : decode cX5_at 18 = .ok (.ifCond .ne 6, 3) := by decide +kernel
theorem dX5_at_21 : decode cX5_at 21 = .ok (.ldc 29, 2) := by decide +kernel
theorem dX5_at_23 : decode cX5_at 23 = .ok (.ireturn, 1) := by decide +kernel
theorem dX5_at_24 : decode cX5_at 24 = .ok (.aload_n 0, 1) := by decide +kernel
theorem dX5_at_25 : decode cX5_at 25 = .ok (.getfield 15, 3) := by decide +kernel
theorem dX5_at_28 : decode cX5_at 28 = .ok (.iload_n 1, 1) := by decide +kernel
theorem dX5_at_29 : decode cX5_at 29 = .ok (.iconst 4, 1) := by decide +kernel
theorem dX5_at_30 : decode cX5_at 30 = .ok (.imul, 1) := by decide +kernel
theorem dX5_at_31 : decode cX5_at 31 = .ok (.iload_n 2, 1) := by decide +kernel
theorem dX5_at_32 : decode cX5_at 32 = .ok (.iadd, 1) := by decide +kernel
theorem dX5_at_33 : decode cX5_at 33 = .ok (.iaload, 1) := by decide +kernel
theorem dX5_at_34 : decode cX5_at 34 = .ok (.ireturn, 1) := by decide +kernel
theorem dX5_set_0 : decode cX5_set 0 = .ok (.iload_n 1, 1) := by decide +kernel
