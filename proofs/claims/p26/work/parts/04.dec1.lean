theorem dX0_init_0 : decode cX0_init 0 = .ok (.aload_n 0, 1) := by decide +kernel
theorem dX0_init_1 : decode cX0_init 1 = .ok (.invokespecial 3, 3) := by decide +kernel
theorem dX0_init_4 : decode cX0_init 4 = .ok (.aload_n 0, 1) := by decide +kernel
theorem dX0_init_5 : decode cX0_init 5 = .ok (.iconst (-1), 1) := by decide +kernel
theorem dX0_init_6 : decode cX0_init 6 = .ok (.putfield 9, 3) := by decide +kernel
theorem dX0_init_9 : decode cX0_init 9 = .ok (.aload_n 0, 1) := by decide +kernel
theorem dX0_init_10 : decode cX0_init 10 = .ok (.iload_n 1, 1) := by decide +kernel
theorem dX0_init_11 : decode cX0_init 11 = .ok (.putfield 15, 3) := by decide +kernel
theorem dX0_init_14 : decode cX0_init 14 = .ok (.aload_n 0, 1) := by decide +kernel
theorem dX0_init_15 : decode cX0_init 15 = .ok (.iload_n 2, 1) := by decide +kernel
theorem dX0_init_16 : decode cX0_init 16 = .ok (.putfield 18, 3) := by decide +kernel
theorem dX0_init_19 : decode cX0_init 19 = .ok (.return_, 1) := by decide +kernel
theorem dX0_hangs_0 : decode cX0_hangs 0 = .ok (.aload_n 0, 1) := by decide +kernel
theorem dX0_hangs_1 : decode cX0_hangs 1 = .ok (.getfield 9, 3) := by decide +kernel
theorem dX0_hangs_4 : decode cX0_hangs 4 = .ok (.iconst (-1), 1) := by decide +kernel
theorem dX0_hangs_5 : decode cX0_hangs 5 = .ok (.if_icmp .eq 7, 3) := by decide +kernel
theorem dX0_hangs_8 : decode cX0_hangs 8 = .ok (.iconst 1, 1) := by decide +kernel
theorem dX0_hangs_9 : decode cX0_hangs 9 = .ok (.goto 4, 3) := by decide +kernel
theorem dX0_hangs_12 : decode cX0_hangs 12 = .ok (.iconst 0, 1) := by decide +kernel
theorem dX0_hangs_13 : decode cX0_hangs 13 = .ok (.ireturn, 1) := by decide +kernel
theorem dX0_isBare_0 : decode cX0_isBare 0 = .ok (.aload_n 0, 1) := by decide +kernel
theorem dX0_isBare_1 : decode cX0_isBare 1 = .ok (.getfield 21, 3) := by decide +kernel
theorem dX0_isBare_4 : decode cX0_isBare 4 = .ok (.ifCond .ne 7, 3) := by decide +kernel
theorem dX0_isBare_7 : decode cX0_isBare 7 = .ok (.iconst 1, 1) := by decide +kernel
theorem dX0_isBare_8 : decode cX0_isBare 8 = .ok (.goto 4, 3) := by decide +kernel
theorem dX0_isBare_11 : decode cX0_isBare 11 = .ok (.iconst 0, 1) := by decide +kernel
theorem dX0_isBare_12 : decode cX0_isBare 12 = .ok (.ireturn, 1) := by decide +kernel
theorem dX0_isTooWarmToCut_0 : decode cX0_isTooWarmToCut 0 = .ok (.aload_n 0, 1) := by decide +kernel
theorem dX0_isTooWarmToCut_1 : decode cX0_isTooWarmToCut 1 = .ok (.getfield 24, 3) := by decide +kernel
theorem dX0_isTooWarmToCut_4 : decode cX0_isTooWarmToCut 4 = .ok (.bipush 20, 2) := by decide +kernel
theorem dX0_isTooWarmToCut_6 : decode cX0_isTooWarmToCut 6 = .ok (.if_icmp .le 7, 3) := by decide +kernel
theorem dX0_isTooWarmToCut_9 : decode cX0_isTooWarmToCut 9 = .ok (.iconst 1, 1) := by decide +kernel
theorem dX0_isTooWarmToCut_10 : decode cX0_isTooWarmToCut 10 = .ok (.goto 4, 3) := by decide +kernel
theorem dX0_isTooWarmToCut_13 : decode cX0_isTooWarmToCut 13 = .ok (.iconst 0, 1) := by decide +kernel
theorem dX0_isTooWarmToCut_14 : decode cX0_isTooWarmToCut 14 = .ok (.ireturn, 1) := by decide +kernel
theorem dX0_meltsWhenDipped_0 : decode cX0_meltsWhenDipped 0 = .ok (.aload_n 0, 1) := by decide +kernel
theorem dX0_meltsWhenDipped_1 : decode cX0_meltsWhenDipped 1 = .ok (.getfield 24, 3) := by decide +kernel
theorem dX0_meltsWhenDipped_4 : decode cX0_meltsWhenDipped 4 = .ok (.bipush 70, 2) := by decide +kernel
theorem dX0_meltsWhenDipped_6 : decode cX0_meltsWhenDipped 6 = .ok (.if_icmp .le 7, 3) := by decide +kernel
theorem dX0_meltsWhenDipped_9 : decode cX0_meltsWhenDipped 9 = .ok (.iconst 1, 1) := by decide +kernel
theorem dX0_meltsWhenDipped_10 : decode cX0_meltsWhenDipped 10 = .ok (.goto 4, 3) := by decide +kernel
theorem dX0_meltsWhenDipped_13 : decode cX0_meltsWhenDipped 13 = .ok (.iconst 0, 1) := by decide +kernel
theorem dX0_meltsWhenDipped_14 : decode cX0_meltsWhenDipped 14 = .ok (.ireturn, 1) := by decide +kernel
theorem dX0_waxOf_0 : decode cX0_waxOf 0 = .ok (.iload_n 1, 1) := by decide +kernel
theorem dX0_waxOf_1 : decode cX0_waxOf 1 = .ok (.bipush 8, 2) := by decide +kernel
theorem dX0_waxOf_3 : decode cX0_waxOf 3 = .ok (.aload_n 0, 1) := by decide +kernel
theorem dX0_waxOf_4 : decode cX0_waxOf 4 = .ok (.getfield 15, 3) := by decide +kernel
theorem dX0_waxOf_7 : decode cX0_waxOf 7 = .ok (.iadd, 1) := by decide +kernel
theorem dX0_waxOf_8 : decode cX0_waxOf 8 = .ok (.imul, 1) := by decide +kernel
theorem dX0_waxOf_9 : decode cX0_waxOf 9 = .ok (.aload_n 0, 1) := by decide +kernel
theorem dX0_waxOf_10 : decode cX0_waxOf 10 = .ok (.getfield 18, 3) := by decide +kernel
theorem dX0_waxOf_13 : decode cX0_waxOf 13 = .ok (.imul, 1) := by decide +kernel
theorem dX0_waxOf_14 : decode cX0_waxOf 14 = .ok (.bipush 10, 2) := by decide +kernel
theorem dX0_waxOf_16 : decode cX0_waxOf 16 = .ok (.idiv, 1) := by decide +kernel
theorem dX0_waxOf_17 : decode cX0_waxOf 17 = .ok (.ireturn, 1) := by decide +kernel
theorem dX0_canBeDipped_0 : decode cX0_canBeDipped 0 = .ok (.aload_n 0, 1) := by decide +kernel
theorem dX0_canBeDipped_1 : decode cX0_canBeDipped 1 = .ok (.invokevirtual 27, 3) := by decide +kernel
theorem dX0_canBeDipped_4 : decode cX0_canBeDipped 4 = .ok (.ifCond .eq 33, 3) := by decide +kernel
theorem dX0_canBeDipped_7 : decode cX0_canBeDipped 7 = .ok (.aload_n 1, 1) := by decide +kernel
theorem dX0_canBeDipped_8 : decode cX0_canBeDipped 8 = .ok (.invokevirtual 31, 3) := by decide +kernel
theorem dX0_canBeDipped_11 : decode cX0_canBeDipped 11 = .ok (.ifCond .eq 26, 3) := by decide +kernel
theorem dX0_canBeDipped_14 : decode cX0_canBeDipped 14 = .ok (.aload_n 0, 1) := by decide +kernel
theorem dX0_canBeDipped_15 : decode cX0_canBeDipped 15 = .ok (.aload_n 0, 1) := by decide +kernel
theorem dX0_canBeDipped_16 : decode cX0_canBeDipped 16 = .ok (.aload_n 1, 1) := by decide +kernel
theorem dX0_canBeDipped_17 : decode cX0_canBeDipped 17 = .ok (.getfield 36, 3) := by decide +kernel
theorem dX0_canBeDipped_20 : decode cX0_canBeDipped 20 = .ok (.invokevirtual 39, 3) := by decide +kernel
theorem dX0_canBeDipped_23 : decode cX0_canBeDipped 23 = .ok (.invokevirtual 43, 3) := by decide +kernel
theorem dX0_canBeDipped_26 : decode cX0_canBeDipped 26 = .ok (.aload_n 1, 1) := by decide +kernel
theorem dX0_canBeDipped_27 : decode cX0_canBeDipped 27 = .ok (.getfield 46, 3) := by decide +kernel
theorem dX0_canBeDipped_30 : decode cX0_canBeDipped 30 = .ok (.if_icmp .gt 7, 3) := by decide +kernel
theorem dX0_canBeDipped_33 : decode cX0_canBeDipped 33 = .ok (.iconst 1, 1) := by decide +kernel
theorem dX0_canBeDipped_34 : decode cX0_canBeDipped 34 = .ok (.goto 4, 3) := by decide +kernel
theorem dX0_canBeDipped_37 : decode cX0_canBeDipped 37 = .ok (.iconst 0, 1) := by decide +kernel
theorem dX0_canBeDipped_38 : decode cX0_canBeDipped 38 = .ok (.ireturn, 1) := by decide +kernel
theorem dX0_gain_0 : decode cX0_gain 0 = .ok (.aload_n 0, 1) := by decide +kernel
theorem dX0_gain_1 : decode cX0_gain 1 = .ok (.invokevirtual 49, 3) := by decide +kernel
theorem dX0_gain_4 : decode cX0_gain 4 = .ok (.ifCond .eq 5, 3) := by decide +kernel
theorem dX0_gain_7 : decode cX0_gain 7 = .ok (.iconst 0, 1) := by decide +kernel
theorem dX0_gain_8 : decode cX0_gain 8 = .ok (.ireturn, 1) := by decide +kernel
theorem dX0_gain_9 : decode cX0_gain 9 = .ok (.bipush 12, 2) := by decide +kernel
theorem dX0_gain_11 : decode cX0_gain 11 = .ok (.iload_n 1, 1) := by decide +kernel
theorem dX0_gain_12 : decode cX0_gain 12 = .ok (.bipush 60, 2) := by decide +kernel
theorem dX0_gain_14 : decode cX0_gain 14 = .ok (.isub, 1) := by decide +kernel
theorem dX0_gain_15 : decode cX0_gain 15 = .ok (.bipush 8, 2) := by decide +kernel
theorem dX0_gain_17 : decode cX0_gain 17 = .ok (.idiv, 1) := by decide +kernel
theorem dX0_gain_18 : decode cX0_gain 18 = .ok (.isub, 1) := by decide +kernel
theorem dX0_gain_19 : decode cX0_gain 19 = .ok (.istore_n 2, 1) := by decide +kernel
theorem dX0_gain_20 : decode cX0_gain 20 = .ok (.aload_n 0, 1) := by decide +kernel
theorem dX0_gain_21 : decode cX0_gain 21 = .ok (.invokevirtual 52, 3) := by decide +kernel
theorem dX0_gain_24 : decode cX0_gain 24 = .ok (.ifCond .eq 6, 3) := by decide +kernel
theorem dX0_gain_27 : decode cX0_gain 27 = .ok (.iinc 2 4, 3) := by decide +kernel
theorem dX0_gain_30 : decode cX0_gain 30 = .ok (.aload_n 0, 1) := by decide +kernel
theorem dX0_gain_31 : decode cX0_gain 31 = .ok (.getfield 15, 3) := by decide +kernel
theorem dX0_gain_34 : decode cX0_gain 34 = .ok (.iconst 3, 1) := by decide +kernel
theorem dX0_gain_35 : decode cX0_gain 35 = .ok (.if_icmp .ne 6, 3) := by decide +kernel
theorem dX0_gain_38 : decode cX0_gain 38 = .ok (.iinc 2 (-3), 3) := by decide +kernel
theorem dX0_gain_41 : decode cX0_gain 41 = .ok (.iload_n 2, 1) := by decide +kernel
theorem dX0_gain_42 : decode cX0_gain 42 = .ok (.sipush 400, 3) := by decide +kernel
theorem dX0_gain_45 : decode cX0_gain 45 = .ok (.aload_n 0, 1) := by decide +kernel
theorem dX0_gain_46 : decode cX0_gain 46 = .ok (.getfield 21, 3) := by decide +kernel
theorem dX0_gain_49 : decode cX0_gain 49 = .ok (.isub, 1) := by decide +kernel
theorem dX0_gain_50 : decode cX0_gain 50 = .ok (.invokestatic 55, 3) := by decide +kernel
theorem dX0_gain_53 : decode cX0_gain 53 = .ok (.ireturn, 1) := by decide +kernel
theorem dX0_immerse_0 : decode cX0_immerse 0 = .ok (.aload_n 0, 1) := by decide +kernel
theorem dX0_immerse_1 : decode cX0_immerse 1 = .ok (.dup, 1) := by decide +kernel
theorem dX0_immerse_2 : decode cX0_immerse 2 = .ok (.getfield 61, 3) := by decide +kernel
theorem dX0_immerse_5 : decode cX0_immerse 5 = .ok (.iconst 1, 1) := by decide +kernel
theorem dX0_immerse_6 : decode cX0_immerse 6 = .ok (.iadd, 1) := by decide +kernel
theorem dX0_immerse_7 : decode cX0_immerse 7 = .ok (.putfield 61, 3) := by decide +kernel
theorem dX0_immerse_10 : decode cX0_immerse 10 = .ok (.aload_n 0, 1) := by decide +kernel
theorem dX0_immerse_11 : decode cX0_immerse 11 = .ok (.invokevirtual 49, 3) := by decide +kernel
theorem dX0_immerse_14 : decode cX0_immerse 14 = .ok (.ifCond .eq 14, 3) := by decide +kernel
theorem dX0_immerse_17 : decode cX0_immerse 17 = .ok (.aload_n 0, 1) := by decide +kernel
theorem dX0_immerse_18 : decode cX0_immerse 18 = .ok (.aload_n 1, 1) := by decide +kernel
theorem dX0_immerse_19 : decode cX0_immerse 19 = .ok (.getfield 36, 3) := by decide +kernel
theorem dX0_immerse_22 : decode cX0_immerse 22 = .ok (.invokevirtual 64, 3) := by decide +kernel
theorem dX0_immerse_25 : decode cX0_immerse 25 = .ok (.goto 8, 3) := by decide +kernel
theorem dX0_immerse_28 : decode cX0_immerse 28 = .ok (.aload_n 0, 1) := by decide +kernel
theorem dX0_immerse_29 : decode cX0_immerse 29 = .ok (.aload_n 1, 1) := by decide +kernel
theorem dX0_immerse_30 : decode cX0_immerse 30 = .ok (.invokevirtual 68, 3) := by decide +kernel
theorem dX0_immerse_33 : decode cX0_immerse 33 = .ok (.return_, 1) := by decide +kernel
theorem dX0_meltOff_0 : decode cX0_meltOff 0 = .ok (.aload_n 0, 1) := by decide +kernel
theorem dX0_meltOff_1 : decode cX0_meltOff 1 = .ok (.iconst 0, 1) := by decide +kernel
theorem dX0_meltOff_2 : decode cX0_meltOff 2 = .ok (.aload_n 0, 1) := by decide +kernel
theorem dX0_meltOff_3 : decode cX0_meltOff 3 = .ok (.getfield 21, 3) := by decide +kernel
theorem dX0_meltOff_6 : decode cX0_meltOff 6 = .ok (.iload_n 1, 1) := by decide +kernel
theorem dX0_meltOff_7 : decode cX0_meltOff 7 = .ok (.bipush 55, 2) := by decide +kernel
theorem dX0_meltOff_9 : decode cX0_meltOff 9 = .ok (.isub, 1) := by decide +kernel
theorem dX0_meltOff_10 : decode cX0_meltOff 10 = .ok (.iconst 5, 1) := by decide +kernel
theorem dX0_meltOff_11 : decode cX0_meltOff 11 = .ok (.idiv, 1) := by decide +kernel
theorem dX0_meltOff_12 : decode cX0_meltOff 12 = .ok (.isub, 1) := by decide +kernel
theorem dX0_meltOff_13 : decode cX0_meltOff 13 = .ok (.invokestatic 72, 3) := by decide +kernel
theorem dX0_meltOff_16 : decode cX0_meltOff 16 = .ok (.putfield 21, 3) := by decide +kernel
theorem dX0_meltOff_19 : decode cX0_meltOff 19 = .ok (.aload_n 0, 1) := by decide +kernel
theorem dX0_meltOff_20 : decode cX0_meltOff 20 = .ok (.invokevirtual 52, 3) := by decide +kernel
theorem dX0_meltOff_23 : decode cX0_meltOff 23 = .ok (.ifCond .eq 8, 3) := by decide +kernel
theorem dX0_meltOff_26 : decode cX0_meltOff 26 = .ok (.aload_n 0, 1) := by decide +kernel
theorem dX0_meltOff_27 : decode cX0_meltOff 27 = .ok (.iconst 0, 1) := by decide +kernel
theorem dX0_meltOff_28 : decode cX0_meltOff 28 = .ok (.putfield 75, 3) := by decide +kernel
theorem dX0_meltOff_31 : decode cX0_meltOff 31 = .ok (.aload_n 0, 1) := by decide +kernel
theorem dX0_meltOff_32 : decode cX0_meltOff 32 = .ok (.bipush 100, 2) := by decide +kernel
theorem dX0_meltOff_34 : decode cX0_meltOff 34 = .ok (.putfield 24, 3) := by decide +kernel
theorem dX0_meltOff_37 : decode cX0_meltOff 37 = .ok (.return_, 1) := by decide +kernel
theorem dX0_takeUp_0 : decode cX0_takeUp 0 = .ok (.aload_n 0, 1) := by decide +kernel
theorem dX0_takeUp_1 : decode cX0_takeUp 1 = .ok (.aload_n 1, 1) := by decide +kernel
theorem dX0_takeUp_2 : decode cX0_takeUp 2 = .ok (.getfield 36, 3) := by decide +kernel
theorem dX0_takeUp_5 : decode cX0_takeUp 5 = .ok (.invokevirtual 39, 3) := by decide +kernel
theorem dX0_takeUp_8 : decode cX0_takeUp 8 = .ok (.istore_n 2, 1) := by decide +kernel
theorem dX0_takeUp_9 : decode cX0_takeUp 9 = .ok (.aload_n 0, 1) := by decide +kernel
theorem dX0_takeUp_10 : decode cX0_takeUp 10 = .ok (.invokevirtual 52, 3) := by decide +kernel
theorem dX0_takeUp_13 : decode cX0_takeUp 13 = .ok (.ifCond .ne 17, 3) := by decide +kernel
theorem dX0_takeUp_16 : decode cX0_takeUp 16 = .ok (.aload_n 0, 1) := by decide +kernel
theorem dX0_takeUp_17 : decode cX0_takeUp 17 = .ok (.getfield 24, 3) := by decide +kernel
theorem dX0_takeUp_20 : decode cX0_takeUp 20 = .ok (.bipush 10, 2) := by decide +kernel
theorem dX0_takeUp_22 : decode cX0_takeUp 22 = .ok (.if_icmp .ge 8, 3) := by decide +kernel
theorem dX0_takeUp_25 : decode cX0_takeUp 25 = .ok (.aload_n 0, 1) := by decide +kernel
theorem dX0_takeUp_26 : decode cX0_takeUp 26 = .ok (.iconst 1, 1) := by decide +kernel
theorem dX0_takeUp_27 : decode cX0_takeUp 27 = .ok (.putfield 75, 3) := by decide +kernel
theorem dX0_takeUp_30 : decode cX0_takeUp 30 = .ok (.aload_n 1, 1) := by decide +kernel
theorem dX0_takeUp_31 : decode cX0_takeUp 31 = .ok (.dup, 1) := by decide +kernel
theorem dX0_takeUp_32 : decode cX0_takeUp 32 = .ok (.getfield 46, 3) := by decide +kernel
theorem dX0_takeUp_35 : decode cX0_takeUp 35 = .ok (.aload_n 0, 1) := by decide +kernel
theorem dX0_takeUp_36 : decode cX0_takeUp 36 = .ok (.iload_n 2, 1) := by decide +kernel
theorem dX0_takeUp_37 : decode cX0_takeUp 37 = .ok (.invokevirtual 43, 3) := by decide +kernel
theorem dX0_takeUp_40 : decode cX0_takeUp 40 = .ok (.isub, 1) := by decide +kernel
theorem dX0_takeUp_41 : decode cX0_takeUp 41 = .ok (.putfield 46, 3) := by decide +kernel
theorem dX0_takeUp_44 : decode cX0_takeUp 44 = .ok (.aload_n 0, 1) := by decide +kernel
theorem dX0_takeUp_45 : decode cX0_takeUp 45 = .ok (.dup, 1) := by decide +kernel
theorem dX0_takeUp_46 : decode cX0_takeUp 46 = .ok (.getfield 21, 3) := by decide +kernel
theorem dX0_takeUp_49 : decode cX0_takeUp 49 = .ok (.iload_n 2, 1) := by decide +kernel
theorem dX0_takeUp_50 : decode cX0_takeUp 50 = .ok (.iadd, 1) := by decide +kernel
theorem dX0_takeUp_51 : decode cX0_takeUp 51 = .ok (.putfield 21, 3) := by decide +kernel
theorem dX0_takeUp_54 : decode cX0_takeUp 54 = .ok (.aload_n 0, 1) := by decide +kernel
theorem dX0_takeUp_55 : decode cX0_takeUp 55 = .ok (.bipush 100, 2) := by decide +kernel
theorem dX0_takeUp_57 : decode cX0_takeUp 57 = .ok (.aload_n 0, 1) := by decide +kernel
theorem dX0_takeUp_58 : decode cX0_takeUp 58 = .ok (.getfield 24, 3) := by decide +kernel
theorem dX0_takeUp_61 : decode cX0_takeUp 61 = .ok (.aload_n 1, 1) := by decide +kernel
theorem dX0_takeUp_62 : decode cX0_takeUp 62 = .ok (.getfield 36, 3) := by decide +kernel
theorem dX0_takeUp_65 : decode cX0_takeUp 65 = .ok (.iadd, 1) := by decide +kernel
theorem dX0_takeUp_66 : decode cX0_takeUp 66 = .ok (.iconst 2, 1) := by decide +kernel
theorem dX0_takeUp_67 : decode cX0_takeUp 67 = .ok (.idiv, 1) := by decide +kernel
theorem dX0_takeUp_68 : decode cX0_takeUp 68 = .ok (.invokestatic 55, 3) := by decide +kernel
theorem dX0_takeUp_71 : decode cX0_takeUp 71 = .ok (.putfield 24, 3) := by decide +kernel
theorem dX0_takeUp_74 : decode cX0_takeUp 74 = .ok (.return_, 1) := by decide +kernel
theorem dX0_cool_0 : decode cX0_cool 0 = .ok (.aload_n 0, 1) := by decide +kernel
theorem dX0_cool_1 : decode cX0_cool 1 = .ok (.iconst 0, 1) := by decide +kernel
theorem dX0_cool_2 : decode cX0_cool 2 = .ok (.aload_n 0, 1) := by decide +kernel
theorem dX0_cool_3 : decode cX0_cool 3 = .ok (.getfield 24, 3) := by decide +kernel
theorem dX0_cool_6 : decode cX0_cool 6 = .ok (.aload_n 0, 1) := by decide +kernel
theorem dX0_cool_7 : decode cX0_cool 7 = .ok (.invokevirtual 79, 3) := by decide +kernel
theorem dX0_cool_10 : decode cX0_cool 10 = .ok (.isub, 1) := by decide +kernel
theorem dX0_cool_11 : decode cX0_cool 11 = .ok (.invokestatic 72, 3) := by decide +kernel
theorem dX0_cool_14 : decode cX0_cool 14 = .ok (.putfield 24, 3) := by decide +kernel
theorem dX0_cool_17 : decode cX0_cool 17 = .ok (.return_, 1) := by decide +kernel
theorem dX0_coolingOfPlace_0 : decode cX0_coolingOfPlace 0 = .ok (.aload_n 0, 1) := by decide +kernel
theorem dX0_coolingOfPlace_1 : decode cX0_coolingOfPlace 1 = .ok (.invokevirtual 27, 3) := by decide +kernel
theorem dX0_coolingOfPlace_4 : decode cX0_coolingOfPlace 4 = .ok (.ifCond .ne 5, 3) := by decide +kernel
theorem dX0_coolingOfPlace_7 : decode cX0_coolingOfPlace 7 = .ok (.iconst 3, 1) := by decide +kernel
theorem dX0_coolingOfPlace_8 : decode cX0_coolingOfPlace 8 = .ok (.ireturn, 1) := by decide +kernel
theorem dX0_coolingOfPlace_9 : decode cX0_coolingOfPlace 9 = .ok (.aload_n 0, 1) := by decide +kernel
theorem dX0_coolingOfPlace_10 : decode cX0_coolingOfPlace 10 = .ok (.getfield 9, 3) := by decide +kernel
theorem dX0_coolingOfPlace_13 : decode cX0_coolingOfPlace 13 = .ok (.bipush 6, 2) := by decide +kernel
theorem dX0_coolingOfPlace_15 : decode cX0_coolingOfPlace 15 = .ok (.if_icmp .ge 8, 3) := by decide +kernel
theorem dX0_coolingOfPlace_18 : decode cX0_coolingOfPlace 18 = .ok (.bipush 12, 2) := by decide +kernel
theorem dX0_coolingOfPlace_20 : decode cX0_coolingOfPlace 20 = .ok (.goto 5, 3) := by decide +kernel
theorem dX0_coolingOfPlace_23 : decode cX0_coolingOfPlace 23 = .ok (.bipush 6, 2) := by decide +kernel
theorem dX0_coolingOfPlace_25 : decode cX0_coolingOfPlace 25 = .ok (.ireturn, 1) := by decide +kernel
theorem dX0_size_0 : decode cX0_size 0 = .ok (.bipush 9, 2) := by decide +kernel
theorem dX0_size_2 : decode cX0_size 2 = .ok (.aload_n 0, 1) := by decide +kernel
theorem dX0_size_3 : decode cX0_size 3 = .ok (.getfield 21, 3) := by decide +kernel
theorem dX0_size_6 : decode cX0_size 6 = .ok (.aload_n 0, 1) := by decide +kernel
theorem dX0_size_7 : decode cX0_size 7 = .ok (.getfield 75, 3) := by decide +kernel
theorem dX0_size_10 : decode cX0_size 10 = .ok (.ifCond .eq 8, 3) := by decide +kernel
theorem dX0_size_13 : decode cX0_size 13 = .ok (.bipush 80, 2) := by decide +kernel
theorem dX0_size_15 : decode cX0_size 15 = .ok (.goto 5, 3) := by decide +kernel
theorem dX0_size_18 : decode cX0_size 18 = .ok (.bipush 40, 2) := by decide +kernel
theorem dX0_size_20 : decode cX0_size 20 = .ok (.idiv, 1) := by decide +kernel
theorem dX0_size_21 : decode cX0_size 21 = .ok (.invokestatic 55, 3) := by decide +kernel
theorem dX0_size_24 : decode cX0_size 24 = .ok (.ireturn, 1) := by decide +kernel
theorem dX0_renewWicks_0 : decode cX0_renewWicks 0 = .ok (.aload_n 0, 1) := by decide +kernel
theorem dX0_renewWicks_1 : decode cX0_renewWicks 1 = .ok (.iconst 0, 1) := by decide +kernel
theorem dX0_renewWicks_2 : decode cX0_renewWicks 2 = .ok (.putfield 21, 3) := by decide +kernel
theorem dX0_renewWicks_5 : decode cX0_renewWicks 5 = .ok (.aload_n 0, 1) := by decide +kernel
theorem dX0_renewWicks_6 : decode cX0_renewWicks 6 = .ok (.iconst 0, 1) := by decide +kernel
theorem dX0_renewWicks_7 : decode cX0_renewWicks 7 = .ok (.putfield 24, 3) := by decide +kernel
theorem dX0_renewWicks_10 : decode cX0_renewWicks 10 = .ok (.aload_n 0, 1) := by decide +kernel
theorem dX0_renewWicks_11 : decode cX0_renewWicks 11 = .ok (.iconst 0, 1) := by decide +kernel
theorem dX0_renewWicks_12 : decode cX0_renewWicks 12 = .ok (.putfield 75, 3) := by decide +kernel
theorem dX0_renewWicks_15 : decode cX0_renewWicks 15 = .ok (.aload_n 0, 1) := by decide +kernel
theorem dX0_renewWicks_16 : decode cX0_renewWicks 16 = .ok (.iconst 0, 1) := by decide +kernel
theorem dX0_renewWicks_17 : decode cX0_renewWicks 17 = .ok (.putfield 61, 3) := by decide +kernel
theorem dX0_renewWicks_20 : decode cX0_renewWicks 20 = .ok (.return_, 1) := by decide +kernel
theorem dX0_copyFrom_0 : decode cX0_copyFrom 0 = .ok (.aload_n 0, 1) := by decide +kernel
theorem dX0_copyFrom_1 : decode cX0_copyFrom 1 = .ok (.aload_n 1, 1) := by decide +kernel
theorem dX0_copyFrom_2 : decode cX0_copyFrom 2 = .ok (.getfield 15, 3) := by decide +kernel
theorem dX0_copyFrom_5 : decode cX0_copyFrom 5 = .ok (.putfield 15, 3) := by decide +kernel
theorem dX0_copyFrom_8 : decode cX0_copyFrom 8 = .ok (.aload_n 0, 1) := by decide +kernel
theorem dX0_copyFrom_9 : decode cX0_copyFrom 9 = .ok (.aload_n 1, 1) := by decide +kernel
theorem dX0_copyFrom_10 : decode cX0_copyFrom 10 = .ok (.getfield 18, 3) := by decide +kernel
theorem dX0_copyFrom_13 : decode cX0_copyFrom 13 = .ok (.putfield 18, 3) := by decide +kernel
theorem dX0_copyFrom_16 : decode cX0_copyFrom 16 = .ok (.aload_n 0, 1) := by decide +kernel
theorem dX0_copyFrom_17 : decode cX0_copyFrom 17 = .ok (.aload_n 1, 1) := by decide +kernel
theorem dX0_copyFrom_18 : decode cX0_copyFrom 18 = .ok (.getfield 21, 3) := by decide +kernel
theorem dX0_copyFrom_21 : decode cX0_copyFrom 21 = .ok (.putfield 21, 3) := by decide +kernel
theorem dX0_copyFrom_24 : decode cX0_copyFrom 24 = .ok (.aload_n 0, 1) := by decide +kernel
theorem dX0_copyFrom_25 : decode cX0_copyFrom 25 = .ok (.aload_n 1, 1) := by decide +kernel
theorem dX0_copyFrom_26 : decode cX0_copyFrom 26 = .ok (.getfield 24, 3) := by decide +kernel
theorem dX0_copyFrom_29 : decode cX0_copyFrom 29 = .ok (.putfield 24, 3) := by decide +kernel
theorem dX0_copyFrom_32 : decode cX0_copyFrom 32 = .ok (.aload_n 0, 1) := by decide +kernel
theorem dX0_copyFrom_33 : decode cX0_copyFrom 33 = .ok (.aload_n 1, 1) := by decide +kernel
theorem dX0_copyFrom_34 : decode cX0_copyFrom 34 = .ok (.getfield 75, 3) := by decide +kernel
theorem dX0_copyFrom_37 : decode cX0_copyFrom 37 = .ok (.putfield 75, 3) := by decide +kernel
theorem dX0_copyFrom_40 : decode cX0_copyFrom 40 = .ok (.aload_n 0, 1) := by decide +kernel
theorem dX0_copyFrom_41 : decode cX0_copyFrom 41 = .ok (.aload_n 1, 1) := by decide +kernel
theorem dX0_copyFrom_42 : decode cX0_copyFrom 42 = .ok (.getfield 9, 3) := by decide +kernel
theorem dX0_copyFrom_45 : decode cX0_copyFrom 45 = .ok (.putfield 9, 3) := by decide +kernel
theorem dX0_copyFrom_48 : decode cX0_copyFrom 48 = .ok (.aload_n 0, 1) := by decide +kernel
theorem dX0_copyFrom_49 : decode cX0_copyFrom 49 = .ok (.aload_n 1, 1) := by decide +kernel
theorem dX0_copyFrom_50 : decode cX0_copyFrom 50 = .ok (.getfield 61, 3) := by decide +kernel
theorem dX0_copyFrom_53 : decode cX0_copyFrom 53 = .ok (.putfield 61, 3) := by decide +kernel
theorem dX0_copyFrom_56 : decode cX0_copyFrom 56 = .ok (.return_, 1) := by decide +kernel
theorem dX1_init_0 : decode cX1_init 0 = .ok (.aload_n 0, 1) := by decide +kernel
theorem dX1_init_1 : decode cX1_init 1 = .ok (.invokespecial 3, 3) := by decide +kernel
theorem dX1_init_4 : decode cX1_init 4 = .ok (.aload_n 0, 1) := by decide +kernel
theorem dX1_init_5 : decode cX1_init 5 = .ok (.iconst 0, 1) := by decide +kernel
theorem dX1_init_6 : decode cX1_init 6 = .ok (.putfield 9, 3) := by decide +kernel
theorem dX1_init_9 : decode cX1_init 9 = .ok (.aload_n 0, 1) := by decide +kernel
theorem dX1_init_10 : decode cX1_init 10 = .ok (.iload_n 1, 1) := by decide +kernel
theorem dX1_init_11 : decode cX1_init 11 = .ok (.putfield 15, 3) := by decide +kernel
theorem dX1_init_14 : decode cX1_init 14 = .ok (.aload_n 0, 1) := by decide +kernel
theorem dX1_init_15 : decode cX1_init 15 = .ok (.iload_n 2, 1) := by decide +kernel
theorem dX1_init_16 : decode cX1_init 16 = .ok (.putfield 18, 3) := by decide +kernel
theorem dX1_init_19 : decode cX1_init 19 = .ok (.aload_n 0, 1) := by decide +kernel
theorem dX1_init_20 : decode cX1_init 20 = .ok (.iload_n 3, 1) := by decide +kernel
theorem dX1_init_21 : decode cX1_init 21 = .ok (.putfield 21, 3) := by decide +kernel
theorem dX1_init_24 : decode cX1_init 24 = .ok (.aload_n 0, 1) := by decide +kernel
theorem dX1_init_25 : decode cX1_init 25 = .ok (.iload 4, 2) := by decide +kernel
theorem dX1_init_27 : decode cX1_init 27 = .ok (.putfield 24, 3) := by decide +kernel
theorem dX1_init_30 : decode cX1_init 30 = .ok (.return_, 1) := by decide +kernel
theorem dX1_isOpenFor_0 : decode cX1_isOpenFor 0 = .ok (.aload_n 0, 1) := by decide +kernel
theorem dX1_isOpenFor_1 : decode cX1_isOpenFor 1 = .ok (.getfield 9, 3) := by decide +kernel
theorem dX1_isOpenFor_4 : decode cX1_isOpenFor 4 = .ok (.ifCond .ne 23, 3) := by decide +kernel
theorem dX1_isOpenFor_7 : decode cX1_isOpenFor 7 = .ok (.aload_n 0, 1) := by decide +kernel
theorem dX1_isOpenFor_8 : decode cX1_isOpenFor 8 = .ok (.getfield 15, 3) := by decide +kernel
theorem dX1_isOpenFor_11 : decode cX1_isOpenFor 11 = .ok (.iload_n 1, 1) := by decide +kernel
theorem dX1_isOpenFor_12 : decode cX1_isOpenFor 12 = .ok (.if_icmp .ne 15, 3) := by decide +kernel
theorem dX1_isOpenFor_15 : decode cX1_isOpenFor 15 = .ok (.aload_n 0, 1) := by decide +kernel
theorem dX1_isOpenFor_16 : decode cX1_isOpenFor 16 = .ok (.getfield 18, 3) := by decide +kernel
theorem dX1_isOpenFor_19 : decode cX1_isOpenFor 19 = .ok (.iload_n 2, 1) := by decide +kernel
theorem dX1_isOpenFor_20 : decode cX1_isOpenFor 20 = .ok (.if_icmp .ne 7, 3) := by decide +kernel
theorem dX1_isOpenFor_23 : decode cX1_isOpenFor 23 = .ok (.iconst 1, 1) := by decide +kernel
theorem dX1_isOpenFor_24 : decode cX1_isOpenFor 24 = .ok (.goto 4, 3) := by decide +kernel
theorem dX1_isOpenFor_27 : decode cX1_isOpenFor 27 = .ok (.iconst 0, 1) := by decide +kernel
theorem dX1_isOpenFor_28 : decode cX1_isOpenFor 28 = .ok (.ireturn, 1) := by decide +kernel
theorem dX1_canBeFilled_0 : decode cX1_canBeFilled 0 = .ok (.aload_n 0, 1) := by decide +kernel
theorem dX1_canBeFilled_1 : decode cX1_canBeFilled 1 = .ok (.getfield 9, 3) := by decide +kernel
theorem dX1_canBeFilled_4 : decode cX1_canBeFilled 4 = .ok (.iconst 1, 1) := by decide +kernel
theorem dX1_canBeFilled_5 : decode cX1_canBeFilled 5 = .ok (.if_icmp .eq 26, 3) := by decide +kernel
theorem dX1_canBeFilled_8 : decode cX1_canBeFilled 8 = .ok (.aload_n 1, 1) := by decide +kernel
theorem dX1_canBeFilled_9 : decode cX1_canBeFilled 9 = .ok (.aload_n 0, 1) := by decide +kernel
theorem dX1_canBeFilled_10 : decode cX1_canBeFilled 10 = .ok (.getfield 15, 3) := by decide +kernel
theorem dX1_canBeFilled_13 : decode cX1_canBeFilled 13 = .ok (.aload_n 0, 1) := by decide +kernel
theorem dX1_canBeFilled_14 : decode cX1_canBeFilled 14 = .ok (.getfield 18, 3) := by decide +kernel
theorem dX1_canBeFilled_17 : decode cX1_canBeFilled 17 = .ok (.invokevirtual 27, 3) := by decide +kernel
theorem dX1_canBeFilled_20 : decode cX1_canBeFilled 20 = .ok (.aload_n 0, 1) := by decide +kernel
theorem dX1_canBeFilled_21 : decode cX1_canBeFilled 21 = .ok (.getfield 21, 3) := by decide +kernel
theorem dX1_canBeFilled_24 : decode cX1_canBeFilled 24 = .ok (.if_icmp .lt 7, 3) := by decide +kernel
theorem dX1_canBeFilled_27 : decode cX1_canBeFilled 27 = .ok (.iconst 1, 1) := by decide +kernel
theorem dX1_canBeFilled_28 : decode cX1_canBeFilled 28 = .ok (.goto 4, 3) := by decide +kernel
theorem dX1_canBeFilled_31 : decode cX1_canBeFilled 31 = .ok (.iconst 0, 1) := by decide +kernel
theorem dX1_canBeFilled_32 : decode cX1_canBeFilled 32 = .ok (.ireturn, 1) := by decide +kernel
theorem dX2_init_0 : decode cX2_init 0 = .ok (.aload_n 0, 1) := by decide +kernel
theorem dX2_init_1 : decode cX2_init 1 = .ok (.invokespecial 3, 3) := by decide +kernel
theorem dX2_init_4 : decode cX2_init 4 = .ok (.aload_n 0, 1) := by decide +kernel
theorem dX2_init_5 : decode cX2_init 5 = .ok (.bipush 36, 2) := by decide +kernel
theorem dX2_init_7 : decode cX2_init 7 = .ok (.newarray .int, 2) := by decide +kernel
theorem dX2_init_9 : decode cX2_init 9 = .ok (.putfield 9, 3) := by decide +kernel
theorem dX2_init_12 : decode cX2_init 12 = .ok (.return_, 1) := by decide +kernel
theorem dX2_hasShelf_0 : decode cX2_hasShelf 0 = .ok (.iload_n 0, 1) := by decide +kernel
theorem dX2_hasShelf_1 : decode cX2_hasShelf 1 = .ok (.iconst 0, 1) := by decide +kernel
theorem dX2_hasShelf_2 : decode cX2_hasShelf 2 = .ok (.iconst 3, 1) := by decide +kernel
theorem dX2_hasShelf_3 : decode cX2_hasShelf 3 = .ok (.invokestatic 15, 3) := by decide +kernel
theorem dX2_hasShelf_6 : decode cX2_hasShelf 6 = .ok (.ifCond .eq 17, 3) := by decide +kernel
theorem dX2_hasShelf_9 : decode cX2_hasShelf 9 = .ok (.iload_n 1, 1) := by decide +kernel
theorem dX2_hasShelf_10 : decode cX2_hasShelf 10 = .ok (.iconst 1, 1) := by decide +kernel
theorem dX2_hasShelf_11 : decode cX2_hasShelf 11 = .ok (.bipush 9, 2) := by decide +kernel
theorem dX2_hasShelf_13 : decode cX2_hasShelf 13 = .ok (.invokestatic 15, 3) := by decide +kernel
theorem dX2_hasShelf_16 : decode cX2_hasShelf 16 = .ok (.ifCond .eq 7, 3) := by decide +kernel
theorem dX2_hasShelf_19 : decode cX2_hasShelf 19 = .ok (.iconst 1, 1) := by decide +kernel
theorem dX2_hasShelf_20 : decode cX2_hasShelf 20 = .ok (.goto 4, 3) := by decide +kernel
theorem dX2_hasShelf_23 : decode cX2_hasShelf 23 = .ok (.iconst 0, 1) := by decide +kernel
theorem dX2_hasShelf_24 : decode cX2_hasShelf 24 = .ok (.ireturn, 1) := by decide +kernel
theorem dX2_amount_0 : decode cX2_amount 0 = .ok (.iload_n 1, 1) := by decide +kernel
theorem dX2_amount_1 : decode cX2_amount 1 = .ok (.iload_n 2, 1) := by decide +kernel
theorem dX2_amount_2 : decode cX2_amount 2 = .ok (.invokestatic 19, 3) := by decide +kernel
theorem dX2_amount_5 : decode cX2_amount 5 = .ok (.ifCond .eq 19, 3) := by decide +kernel
theorem dX2_amount_8 : decode cX2_amount 8 = .ok (.aload_n 0, 1) := by decide +kernel
theorem dX2_amount_9 : decode cX2_amount 9 = .ok (.getfield 9, 3) := by decide +kernel
theorem dX2_amount_12 : decode cX2_amount 12 = .ok (.iload_n 1, 1) := by decide +kernel
theorem dX2_amount_13 : decode cX2_amount 13 = .ok (.bipush 9, 2) := by decide +kernel
theorem dX2_amount_15 : decode cX2_amount 15 = .ok (.imul, 1) := by decide +kernel
theorem dX2_amount_16 : decode cX2_amount 16 = .ok (.iload_n 2, 1) := by decide +kernel
theorem dX2_amount_17 : decode cX2_amount 17 = .ok (.iadd, 1) := by decide +kernel
theorem dX2_amount_18 : decode cX2_amount 18 = .ok (.iconst 1, 1) := by decide +kernel
theorem dX2_amount_19 : decode cX2_amount 19 = .ok (.isub, 1) := by decide +kernel
theorem dX2_amount_20 : decode cX2_amount 20 = .ok (.iaload, 1) := by decide +kernel
theorem dX2_amount_21 : decode cX2_amount 21 = .ok (.goto 4, 3) := by decide +kernel
theorem dX2_amount_24 : decode cX2_amount 24 = .ok (.iconst 0, 1) := by decide +kernel
theorem dX2_amount_25 : decode cX2_amount 25 = .ok (.ireturn, 1) := by decide +kernel
theorem dX2_amountFrom_0 : decode cX2_amountFrom 0 = .ok (.iconst 0, 1) := by decide +kernel
theorem dX2_amountFrom_1 : decode cX2_amountFrom 1 = .ok (.istore_n 3, 1) := by decide +kernel
theorem dX2_amountFrom_2 : decode cX2_amountFrom 2 = .ok (.iload_n 2, 1) := by decide +kernel
theorem dX2_amountFrom_3 : decode cX2_amountFrom 3 = .ok (.istore 4, 2) := by decide +kernel
theorem dX2_amountFrom_5 : decode cX2_amountFrom 5 = .ok (.iload 4, 2) := by decide +kernel
theorem dX2_amountFrom_7 : decode cX2_amountFrom 7 = .ok (.bipush 9, 2) := by decide +kernel
theorem dX2_amountFrom_9 : decode cX2_amountFrom 9 = .ok (.if_icmp .gt 19, 3) := by decide +kernel
theorem dX2_amountFrom_12 : decode cX2_amountFrom 12 = .ok (.iload_n 3, 1) := by decide +kernel
theorem dX2_amountFrom_13 : decode cX2_amountFrom 13 = .ok (.aload_n 0, 1) := by decide +kernel
theorem dX2_amountFrom_14 : decode cX2_amountFrom 14 = .ok (.iload_n 1, 1) := by decide +kernel
theorem dX2_amountFrom_15 : decode cX2_amountFrom 15 = .ok (.iload 4, 2) := by decide +kernel
theorem dX2_amountFrom_17 : decode cX2_amountFrom 17 = .ok (.invokevirtual 23, 3) := by decide +kernel
theorem dX2_amountFrom_20 : decode cX2_amountFrom 20 = .ok (.iadd, 1) := by decide +kernel
theorem dX2_amountFrom_21 : decode cX2_amountFrom 21 = .ok (.istore_n 3, 1) := by decide +kernel
theorem dX2_amountFrom_22 : decode cX2_amountFrom 22 = .ok (.iinc 4 1, 3) := by decide +kernel
theorem dX2_amountFrom_25 : decode cX2_amountFrom 25 = .ok (.goto (-20), 3) := by decide +kernel
theorem dX2_amountFrom_28 : decode cX2_amountFrom 28 = .ok (.iload_n 3, 1) := by decide +kernel
theorem dX2_amountFrom_29 : decode cX2_amountFrom 29 = .ok (.ireturn, 1) := by decide +kernel
theorem dX2_total_0 : decode cX2_total 0 = .ok (.iconst 0, 1) := by decide +kernel
theorem dX2_total_1 : decode cX2_total 1 = .ok (.istore_n 1, 1) := by decide +kernel
theorem dX2_total_2 : decode cX2_total 2 = .ok (.aload_n 0, 1) := by decide +kernel
theorem dX2_total_3 : decode cX2_total 3 = .ok (.getfield 9, 3) := by decide +kernel
theorem dX2_total_6 : decode cX2_total 6 = .ok (.astore_n 2, 1) := by decide +kernel
theorem dX2_total_7 : decode cX2_total 7 = .ok (.aload_n 2, 1) := by decide +kernel
theorem dX2_total_8 : decode cX2_total 8 = .ok (.arraylength, 1) := by decide +kernel
theorem dX2_total_9 : decode cX2_total 9 = .ok (.istore_n 3, 1) := by decide +kernel
theorem dX2_total_10 : decode cX2_total 10 = .ok (.iconst 0, 1) := by decide +kernel
theorem dX2_total_11 : decode cX2_total 11 = .ok (.istore 4, 2) := by decide +kernel
theorem dX2_total_13 : decode cX2_total 13 = .ok (.iload 4, 2) := by decide +kernel
theorem dX2_total_15 : decode cX2_total 15 = .ok (.iload_n 3, 1) := by decide +kernel
theorem dX2_total_16 : decode cX2_total 16 = .ok (.if_icmp .ge 20, 3) := by decide +kernel
theorem dX2_total_19 : decode cX2_total 19 = .ok (.aload_n 2, 1) := by decide +kernel
theorem dX2_total_20 : decode cX2_total 20 = .ok (.iload 4, 2) := by decide +kernel
theorem dX2_total_22 : decode cX2_total 22 = .ok (.iaload, 1) := by decide +kernel
theorem dX2_total_23 : decode cX2_total 23 = .ok (.istore 5, 2) := by decide +kernel
theorem dX2_total_25 : decode cX2_total 25 = .ok (.iload_n 1, 1) := by decide +kernel
theorem dX2_total_26 : decode cX2_total 26 = .ok (.iload 5, 2) := by decide +kernel
theorem dX2_total_28 : decode cX2_total 28 = .ok (.iadd, 1) := by decide +kernel
theorem dX2_total_29 : decode cX2_total 29 = .ok (.istore_n 1, 1) := by decide +kernel
theorem dX2_total_30 : decode cX2_total 30 = .ok (.iinc 4 1, 3) := by decide +kernel
theorem dX2_total_33 : decode cX2_total 33 = .ok (.goto (-20), 3) := by decide +kernel
theorem dX2_total_36 : decode cX2_total 36 = .ok (.iload_n 1, 1) := by decide +kernel
theorem dX2_total_37 : decode cX2_total 37 = .ok (.ireturn, 1) := by decide +kernel
theorem dX2_put_0 : decode cX2_put 0 = .ok (.iload_n 1, 1) := by decide +kernel
theorem dX2_put_1 : decode cX2_put 1 = .ok (.iload_n 2, 1) := by decide +kernel
theorem dX2_put_2 : decode cX2_put 2 = .ok (.invokestatic 19, 3) := by decide +kernel
theorem dX2_put_5 : decode cX2_put 5 = .ok (.ifCond .eq 20, 3) := by decide +kernel
theorem dX2_put_8 : decode cX2_put 8 = .ok (.aload_n 0, 1) := by decide +kernel
theorem dX2_put_9 : decode cX2_put 9 = .ok (.getfield 9, 3) := by decide +kernel
theorem dX2_put_12 : decode cX2_put 12 = .ok (.iload_n 1, 1) := by decide +kernel
theorem dX2_put_13 : decode cX2_put 13 = .ok (.bipush 9, 2) := by decide +kernel
theorem dX2_put_15 : decode cX2_put 15 = .ok (.imul, 1) := by decide +kernel
theorem dX2_put_16 : decode cX2_put 16 = .ok (.iload_n 2, 1) := by decide +kernel
theorem dX2_put_17 : decode cX2_put 17 = .ok (.iadd, 1) := by decide +kernel
theorem dX2_put_18 : decode cX2_put 18 = .ok (.iconst 1, 1) := by decide +kernel
theorem dX2_put_19 : decode cX2_put 19 = .ok (.isub, 1) := by decide +kernel
theorem dX2_put_20 : decode cX2_put 20 = .ok (.dup2, 1) := by decide +kernel
theorem dX2_put_21 : decode cX2_put 21 = .ok (.iaload, 1) := by decide +kernel
theorem dX2_put_22 : decode cX2_put 22 = .ok (.iload_n 3, 1) := by decide +kernel
theorem dX2_put_23 : decode cX2_put 23 = .ok (.iadd, 1) := by decide +kernel
theorem dX2_put_24 : decode cX2_put 24 = .ok (.iastore, 1) := by decide +kernel
theorem dX2_put_25 : decode cX2_put 25 = .ok (.return_, 1) := by decide +kernel
theorem dX2_take_0 : decode cX2_take 0 = .ok (.iload_n 3, 1) := by decide +kernel
theorem dX2_take_1 : decode cX2_take 1 = .ok (.istore 4, 2) := by decide +kernel
theorem dX2_take_3 : decode cX2_take 3 = .ok (.iload_n 2, 1) := by decide +kernel
theorem dX2_take_4 : decode cX2_take 4 = .ok (.istore 5, 2) := by decide +kernel
theorem dX2_take_6 : decode cX2_take 6 = .ok (.iload 5, 2) := by decide +kernel
theorem dX2_take_8 : decode cX2_take 8 = .ok (.bipush 9, 2) := by decide +kernel
theorem dX2_take_10 : decode cX2_take 10 = .ok (.if_icmp .gt 40, 3) := by decide +kernel
theorem dX2_take_13 : decode cX2_take 13 = .ok (.iload 4, 2) := by decide +kernel
theorem dX2_take_15 : decode cX2_take 15 = .ok (.aload_n 0, 1) := by decide +kernel
theorem dX2_take_16 : decode cX2_take 16 = .ok (.iload_n 1, 1) := by decide +kernel
theorem dX2_take_17 : decode cX2_take 17 = .ok (.iload 5, 2) := by decide +kernel
theorem dX2_take_19 : decode cX2_take 19 = .ok (.invokevirtual 23, 3) := by decide +kernel
theorem dX2_take_22 : decode cX2_take 22 = .ok (.invokestatic 27, 3) := by decide +kernel
theorem dX2_take_25 : decode cX2_take 25 = .ok (.istore 6, 2) := by decide +kernel
theorem dX2_take_27 : decode cX2_take 27 = .ok (.aload_n 0, 1) := by decide +kernel
theorem dX2_take_28 : decode cX2_take 28 = .ok (.iload_n 1, 1) := by decide +kernel
theorem dX2_take_29 : decode cX2_take 29 = .ok (.iload 5, 2) := by decide +kernel
theorem dX2_take_31 : decode cX2_take 31 = .ok (.iload 6, 2) := by decide +kernel
theorem dX2_take_33 : decode cX2_take 33 = .ok (.ineg, 1) := by decide +kernel
theorem dX2_take_34 : decode cX2_take 34 = .ok (.invokevirtual 32, 3) := by decide +kernel
theorem dX2_take_37 : decode cX2_take 37 = .ok (.iload 4, 2) := by decide +kernel
theorem dX2_take_39 : decode cX2_take 39 = .ok (.iload 6, 2) := by decide +kernel
theorem dX2_take_41 : decode cX2_take 41 = .ok (.isub, 1) := by decide +kernel
theorem dX2_take_42 : decode cX2_take 42 = .ok (.istore 4, 2) := by decide +kernel
theorem dX2_take_44 : decode cX2_take 44 = .ok (.iinc 5 1, 3) := by decide +kernel
theorem dX2_take_47 : decode cX2_take 47 = .ok (.goto (-41), 3) := by decide +kernel
theorem dX2_take_50 : decode cX2_take 50 = .ok (.return_, 1) := by decide +kernel
theorem dX3_init_0 : decode cX3_init 0 = .ok (.aload_n 0, 1) := by decide +kernel
theorem dX3_init_1 : decode cX3_init 1 = .ok (.invokespecial 3, 3) := by decide +kernel
theorem dX3_init_4 : decode cX3_init 4 = .ok (.aload_n 0, 1) := by decide +kernel
theorem dX3_init_5 : decode cX3_init 5 = .ok (.new 9, 3) := by decide +kernel
theorem dX3_init_8 : decode cX3_init 8 = .ok (.dup, 1) := by decide +kernel
theorem dX3_init_9 : decode cX3_init 9 = .ok (.iconst 0, 1) := by decide +kernel
theorem dX3_init_10 : decode cX3_init 10 = .ok (.iconst 1, 1) := by decide +kernel
theorem dX3_init_11 : decode cX3_init 11 = .ok (.invokespecial 11, 3) := by decide +kernel
theorem dX3_init_14 : decode cX3_init 14 = .ok (.putfield 14, 3) := by decide +kernel
theorem dX3_init_17 : decode cX3_init 17 = .ok (.aload_n 0, 1) := by decide +kernel
theorem dX3_init_18 : decode cX3_init 18 = .ok (.new 20, 3) := by decide +kernel
theorem dX3_init_21 : decode cX3_init 21 = .ok (.dup, 1) := by decide +kernel
theorem dX3_init_22 : decode cX3_init 22 = .ok (.invokespecial 22, 3) := by decide +kernel
theorem dX3_init_25 : decode cX3_init 25 = .ok (.putfield 23, 3) := by decide +kernel
theorem dX3_init_28 : decode cX3_init 28 = .ok (.return_, 1) := by decide +kernel
theorem dX3_thicknessAfter_0 : decode cX3_thicknessAfter 0 = .ok (.aload_n 0, 1) := by decide +kernel
theorem dX3_thicknessAfter_1 : decode cX3_thicknessAfter 1 = .ok (.aload_n 1, 1) := by decide +kernel
theorem dX3_thicknessAfter_2 : decode cX3_thicknessAfter 2 = .ok (.aload_n 2, 1) := by decide +kernel
theorem dX3_thicknessAfter_3 : decode cX3_thicknessAfter 3 = .ok (.invokevirtual 27, 3) := by decide +kernel
theorem dX3_thicknessAfter_6 : decode cX3_thicknessAfter 6 = .ok (.iconst 0, 1) := by decide +kernel
theorem dX3_thicknessAfter_7 : decode cX3_thicknessAfter 7 = .ok (.istore 4, 2) := by decide +kernel
theorem dX3_thicknessAfter_9 : decode cX3_thicknessAfter 9 = .ok (.iload 4, 2) := by decide +kernel
theorem dX3_thicknessAfter_11 : decode cX3_thicknessAfter 11 = .ok (.iload_n 3, 1) := by decide +kernel
theorem dX3_thicknessAfter_12 : decode cX3_thicknessAfter 12 = .ok (.if_icmp .ge 19, 3) := by decide +kernel
theorem dX3_thicknessAfter_15 : decode cX3_thicknessAfter 15 = .ok (.aload_n 0, 1) := by decide +kernel
theorem dX3_thicknessAfter_16 : decode cX3_thicknessAfter 16 = .ok (.invokevirtual 31, 3) := by decide +kernel
theorem dX3_thicknessAfter_19 : decode cX3_thicknessAfter 19 = .ok (.ifCond .ne 6, 3) := by decide +kernel
theorem dX3_thicknessAfter_22 : decode cX3_thicknessAfter 22 = .ok (.goto 9, 3) := by decide +kernel
theorem dX3_thicknessAfter_25 : decode cX3_thicknessAfter 25 = .ok (.iinc 4 1, 3) := by decide +kernel
theorem dX3_thicknessAfter_28 : decode cX3_thicknessAfter 28 = .ok (.goto (-19), 3) := by decide +kernel
theorem dX3_thicknessAfter_31 : decode cX3_thicknessAfter 31 = .ok (.aload_n 0, 1) := by decide +kernel
theorem dX3_thicknessAfter_32 : decode cX3_thicknessAfter 32 = .ok (.getfield 14, 3) := by decide +kernel
theorem dX3_thicknessAfter_35 : decode cX3_thicknessAfter 35 = .ok (.getfield 35, 3) := by decide +kernel
theorem dX3_thicknessAfter_38 : decode cX3_thicknessAfter 38 = .ok (.ireturn, 1) := by decide +kernel
theorem dX3_begin_0 : decode cX3_begin 0 = .ok (.aload_n 0, 1) := by decide +kernel
theorem dX3_begin_1 : decode cX3_begin 1 = .ok (.getfield 14, 3) := by decide +kernel
theorem dX3_begin_4 : decode cX3_begin 4 = .ok (.aload_n 1, 1) := by decide +kernel
theorem dX3_begin_5 : decode cX3_begin 5 = .ok (.invokevirtual 51, 3) := by decide +kernel
theorem dX3_begin_8 : decode cX3_begin 8 = .ok (.aload_n 0, 1) := by decide +kernel
theorem dX3_begin_9 : decode cX3_begin 9 = .ok (.getfield 23, 3) := by decide +kernel
theorem dX3_begin_12 : decode cX3_begin 12 = .ok (.aload_n 2, 1) := by decide +kernel
theorem dX3_begin_13 : decode cX3_begin 13 = .ok (.invokevirtual 55, 3) := by decide +kernel
theorem dX3_begin_16 : decode cX3_begin 16 = .ok (.return_, 1) := by decide +kernel
theorem dX3_tryDip_0 : decode cX3_tryDip 0 = .ok (.aload_n 0, 1) := by decide +kernel
theorem dX3_tryDip_1 : decode cX3_tryDip 1 = .ok (.getfield 14, 3) := by decide +kernel
theorem dX3_tryDip_4 : decode cX3_tryDip 4 = .ok (.aload_n 0, 1) := by decide +kernel
theorem dX3_tryDip_5 : decode cX3_tryDip 5 = .ok (.getfield 23, 3) := by decide +kernel
theorem dX3_tryDip_8 : decode cX3_tryDip 8 = .ok (.invokevirtual 58, 3) := by decide +kernel
theorem dX3_tryDip_11 : decode cX3_tryDip 11 = .ok (.ifCond .ne 5, 3) := by decide +kernel
theorem dX3_tryDip_14 : decode cX3_tryDip 14 = .ok (.iconst 0, 1) := by decide +kernel
theorem dX3_tryDip_15 : decode cX3_tryDip 15 = .ok (.ireturn, 1) := by decide +kernel
theorem dX3_tryDip_16 : decode cX3_tryDip 16 = .ok (.aload_n 0, 1) := by decide +kernel
theorem dX3_tryDip_17 : decode cX3_tryDip 17 = .ok (.getfield 14, 3) := by decide +kernel
theorem dX3_tryDip_20 : decode cX3_tryDip 20 = .ok (.aload_n 0, 1) := by decide +kernel
theorem dX3_tryDip_21 : decode cX3_tryDip 21 = .ok (.getfield 23, 3) := by decide +kernel
theorem dX3_tryDip_24 : decode cX3_tryDip 24 = .ok (.invokevirtual 62, 3) := by decide +kernel
theorem dX3_tryDip_27 : decode cX3_tryDip 27 = .ok (.aload_n 0, 1) := by decide +kernel
theorem dX3_tryDip_28 : decode cX3_tryDip 28 = .ok (.getfield 23, 3) := by decide +kernel
theorem dX3_tryDip_31 : decode cX3_tryDip 31 = .ok (.invokevirtual 65, 3) := by decide +kernel
theorem dX3_tryDip_34 : decode cX3_tryDip 34 = .ok (.iconst 1, 1) := by decide +kernel
theorem dX3_tryDip_35 : decode cX3_tryDip 35 = .ok (.ireturn, 1) := by decide +kernel
theorem dX4_init_0 : decode cX4_init 0 = .ok (.aload_n 0, 1) := by decide +kernel
theorem dX4_init_1 : decode cX4_init 1 = .ok (.invokespecial 3, 3) := by decide +kernel
theorem dX4_init_4 : decode cX4_init 4 = .ok (.aload_n 0, 1) := by decide +kernel
theorem dX4_init_5 : decode cX4_init 5 = .ok (.bipush 20, 2) := by decide +kernel
theorem dX4_init_7 : decode cX4_init 7 = .ok (.putfield 9, 3) := by decide +kernel
theorem dX4_init_10 : decode cX4_init 10 = .ok (.return_, 1) := by decide +kernel
theorem dX4_isMelted_0 : decode cX4_isMelted 0 = .ok (.aload_n 0, 1) := by decide +kernel
theorem dX4_isMelted_1 : decode cX4_isMelted 1 = .ok (.getfield 9, 3) := by decide +kernel
theorem dX4_isMelted_4 : decode cX4_isMelted 4 = .ok (.bipush 60, 2) := by decide +kernel
theorem dX4_isMelted_6 : decode cX4_isMelted 6 = .ok (.if_icmp .lt 7, 3) := by decide +kernel
theorem dX4_isMelted_9 : decode cX4_isMelted 9 = .ok (.iconst 1, 1) := by decide +kernel
theorem dX4_isMelted_10 : decode cX4_isMelted 10 = .ok (.goto 4, 3) := by decide +kernel
theorem dX4_isMelted_13 : decode cX4_isMelted 13 = .ok (.iconst 0, 1) := by decide +kernel
theorem dX4_isMelted_14 : decode cX4_isMelted 14 = .ok (.ireturn, 1) := by decide +kernel
theorem dX4_throwIn_0 : decode cX4_throwIn 0 = .ok (.aload_n 0, 1) := by decide +kernel
theorem dX4_throwIn_1 : decode cX4_throwIn 1 = .ok (.getfield 15, 3) := by decide +kernel
theorem dX4_throwIn_4 : decode cX4_throwIn 4 = .ok (.iload_n 1, 1) := by decide +kernel
theorem dX4_throwIn_5 : decode cX4_throwIn 5 = .ok (.iadd, 1) := by decide +kernel
theorem dX4_throwIn_6 : decode cX4_throwIn 6 = .ok (.istore_n 2, 1) := by decide +kernel
theorem dX4_throwIn_7 : decode cX4_throwIn 7 = .ok (.iload_n 2, 1) := by decide +kernel
theorem dX4_throwIn_8 : decode cX4_throwIn 8 = .ok (.ifCond .le 23, 3) := by decide +kernel
theorem dX4_throwIn_11 : decode cX4_throwIn 11 = .ok (.aload_n 0, 1) := by decide +kernel
theorem dX4_throwIn_12 : decode cX4_throwIn 12 = .ok (.aload_n 0, 1) := by decide +kernel
theorem dX4_throwIn_13 : decode cX4_throwIn 13 = .ok (.getfield 9, 3) := by decide +kernel
theorem dX4_throwIn_16 : decode cX4_throwIn 16 = .ok (.aload_n 0, 1) := by decide +kernel
theorem dX4_throwIn_17 : decode cX4_throwIn 17 = .ok (.getfield 15, 3) := by decide +kernel
theorem dX4_throwIn_20 : decode cX4_throwIn 20 = .ok (.imul, 1) := by decide +kernel
theorem dX4_throwIn_21 : decode cX4_throwIn 21 = .ok (.bipush 20, 2) := by decide +kernel
theorem dX4_throwIn_23 : decode cX4_throwIn 23 = .ok (.iload_n 1, 1) := by decide +kernel
theorem dX4_throwIn_24 : decode cX4_throwIn 24 = .ok (.imul, 1) := by decide +kernel
theorem dX4_throwIn_25 : decode cX4_throwIn 25 = .ok (.iadd, 1) := by decide +kernel
theorem dX4_throwIn_26 : decode cX4_throwIn 26 = .ok (.iload_n 2, 1) := by decide +kernel
theorem dX4_throwIn_27 : decode cX4_throwIn 27 = .ok (.idiv, 1) := by decide +kernel
theorem dX4_throwIn_28 : decode cX4_throwIn 28 = .ok (.putfield 9, 3) := by decide +kernel
theorem dX4_throwIn_31 : decode cX4_throwIn 31 = .ok (.aload_n 0, 1) := by decide +kernel
theorem dX4_throwIn_32 : decode cX4_throwIn 32 = .ok (.iload_n 2, 1) := by decide +kernel
theorem dX4_throwIn_33 : decode cX4_throwIn 33 = .ok (.putfield 15, 3) := by decide +kernel
theorem dX4_throwIn_36 : decode cX4_throwIn 36 = .ok (.return_, 1) := by decide +kernel
theorem dX4_takeBack_0 : decode cX4_takeBack 0 = .ok (.aload_n 0, 1) := by decide +kernel
theorem dX4_takeBack_1 : decode cX4_takeBack 1 = .ok (.sipush 20000, 3) := by decide +kernel
theorem dX4_takeBack_4 : decode cX4_takeBack 4 = .ok (.aload_n 0, 1) := by decide +kernel
theorem dX4_takeBack_5 : decode cX4_takeBack 5 = .ok (.getfield 15, 3) := by decide +kernel
theorem dX4_takeBack_8 : decode cX4_takeBack 8 = .ok (.iload_n 1, 1) := by decide +kernel
theorem dX4_takeBack_9 : decode cX4_takeBack 9 = .ok (.iadd, 1) := by decide +kernel
theorem dX4_takeBack_10 : decode cX4_takeBack 10 = .ok (.invokestatic 18, 3) := by decide +kernel
theorem dX4_takeBack_13 : decode cX4_takeBack 13 = .ok (.putfield 15, 3) := by decide +kernel
theorem dX4_takeBack_16 : decode cX4_takeBack 16 = .ok (.return_, 1) := by decide +kernel
theorem dX4_burn_0 : decode cX4_burn 0 = .ok (.aload_n 0, 1) := by decide +kernel
theorem dX4_burn_1 : decode cX4_burn 1 = .ok (.getfield 9, 3) := by decide +kernel
theorem dX4_burn_4 : decode cX4_burn 4 = .ok (.bipush 6, 2) := by decide +kernel
theorem dX4_burn_6 : decode cX4_burn 6 = .ok (.aload_n 0, 1) := by decide +kernel
theorem dX4_burn_7 : decode cX4_burn 7 = .ok (.getfield 24, 3) := by decide +kernel
theorem dX4_burn_10 : decode cX4_burn 10 = .ok (.imul, 1) := by decide +kernel
theorem dX4_burn_11 : decode cX4_burn 11 = .ok (.iadd, 1) := by decide +kernel
theorem dX4_burn_12 : decode cX4_burn 12 = .ok (.istore_n 1, 1) := by decide +kernel
theorem dX4_burn_13 : decode cX4_burn 13 = .ok (.iload_n 1, 1) := by decide +kernel
theorem dX4_burn_14 : decode cX4_burn 14 = .ok (.iload_n 1, 1) := by decide +kernel
theorem dX4_burn_15 : decode cX4_burn 15 = .ok (.bipush 20, 2) := by decide +kernel
theorem dX4_burn_17 : decode cX4_burn 17 = .ok (.isub, 1) := by decide +kernel
theorem dX4_burn_18 : decode cX4_burn 18 = .ok (.bipush 10, 2) := by decide +kernel
theorem dX4_burn_20 : decode cX4_burn 20 = .ok (.idiv, 1) := by decide +kernel
theorem dX4_burn_21 : decode cX4_burn 21 = .ok (.isub, 1) := by decide +kernel
theorem dX4_burn_22 : decode cX4_burn 22 = .ok (.istore_n 2, 1) := by decide +kernel
theorem dX4_burn_23 : decode cX4_burn 23 = .ok (.aload_n 0, 1) := by decide +kernel
theorem dX4_burn_24 : decode cX4_burn 24 = .ok (.iconst 0, 1) := by decide +kernel
theorem dX4_burn_25 : decode cX4_burn 25 = .ok (.bipush 120, 2) := by decide +kernel
theorem dX4_burn_27 : decode cX4_burn 27 = .ok (.iload_n 2, 1) := by decide +kernel
theorem dX4_burn_28 : decode cX4_burn 28 = .ok (.invokestatic 18, 3) := by decide +kernel
theorem dX4_burn_31 : decode cX4_burn 31 = .ok (.invokestatic 27, 3) := by decide +kernel
theorem dX4_burn_34 : decode cX4_burn 34 = .ok (.putfield 9, 3) := by decide +kernel
theorem dX4_burn_37 : decode cX4_burn 37 = .ok (.return_, 1) := by decide +kernel
theorem dX4_copyFrom_0 : decode cX4_copyFrom 0 = .ok (.aload_n 0, 1) := by decide +kernel
theorem dX4_copyFrom_1 : decode cX4_copyFrom 1 = .ok (.aload_n 1, 1) := by decide +kernel
theorem dX4_copyFrom_2 : decode cX4_copyFrom 2 = .ok (.getfield 15, 3) := by decide +kernel
theorem dX4_copyFrom_5 : decode cX4_copyFrom 5 = .ok (.putfield 15, 3) := by decide +kernel
theorem dX4_copyFrom_8 : decode cX4_copyFrom 8 = .ok (.aload_n 0, 1) := by decide +kernel
theorem dX4_copyFrom_9 : decode cX4_copyFrom 9 = .ok (.aload_n 1, 1) := by decide +kernel
theorem dX4_copyFrom_10 : decode cX4_copyFrom 10 = .ok (.getfield 9, 3) := by decide +kernel
theorem dX4_copyFrom_13 : decode cX4_copyFrom 13 = .ok (.putfield 9, 3) := by decide +kernel
theorem dX4_copyFrom_16 : decode cX4_copyFrom 16 = .ok (.aload_n 0, 1) := by decide +kernel
theorem dX4_copyFrom_17 : decode cX4_copyFrom 17 = .ok (.aload_n 1, 1) := by decide +kernel
theorem dX4_copyFrom_18 : decode cX4_copyFrom 18 = .ok (.getfield 24, 3) := by decide +kernel
theorem dX4_copyFrom_21 : decode cX4_copyFrom 21 = .ok (.putfield 24, 3) := by decide +kernel
theorem dX4_copyFrom_24 : decode cX4_copyFrom 24 = .ok (.return_, 1) := by decide +kernel
theorem dX5_init_0 : decode cX5_init 0 = .ok (.aload_n 0, 1) := by decide +kernel
theorem dX5_init_1 : decode cX5_init 1 = .ok (.invokespecial 1, 3) := by decide +kernel
theorem dX5_init_4 : decode cX5_init 4 = .ok (.aload_n 0, 1) := by decide +kernel
theorem dX5_init_5 : decode cX5_init 5 = .ok (.new 7, 3) := by decide +kernel
theorem dX5_init_8 : decode cX5_init 8 = .ok (.dup, 1) := by decide +kernel
theorem dX5_init_9 : decode cX5_init 9 = .ok (.invokespecial 9, 3) := by decide +kernel
theorem dX5_init_12 : decode cX5_init 12 = .ok (.putfield 10, 3) := by decide +kernel
theorem dX5_init_15 : decode cX5_init 15 = .ok (.aload_n 0, 1) := by decide +kernel
theorem dX5_init_16 : decode cX5_init 16 = .ok (.bipush 12, 2) := by decide +kernel
theorem dX5_init_18 : decode cX5_init 18 = .ok (.anewarray 16, 3) := by decide +kernel
theorem dX5_init_21 : decode cX5_init 21 = .ok (.putfield 18, 3) := by decide +kernel
theorem dX5_init_24 : decode cX5_init 24 = .ok (.aload_n 0, 1) := by decide +kernel
theorem dX5_init_25 : decode cX5_init 25 = .ok (.new 22, 3) := by decide +kernel
theorem dX5_init_28 : decode cX5_init 28 = .ok (.dup, 1) := by decide +kernel
theorem dX5_init_29 : decode cX5_init 29 = .ok (.invokespecial 24, 3) := by decide +kernel
theorem dX5_init_32 : decode cX5_init 32 = .ok (.putfield 25, 3) := by decide +kernel
theorem dX5_init_35 : decode cX5_init 35 = .ok (.aload_n 0, 1) := by decide +kernel
theorem dX5_init_36 : decode cX5_init 36 = .ok (.bipush 20, 2) := by decide +kernel
theorem dX5_init_38 : decode cX5_init 38 = .ok (.anewarray 29, 3) := by decide +kernel
theorem dX5_init_41 : decode cX5_init 41 = .ok (.putfield 31, 3) := by decide +kernel
theorem dX5_init_44 : decode cX5_init 44 = .ok (.aload_n 0, 1) := by decide +kernel
theorem dX5_init_45 : decode cX5_init 45 = .ok (.new 35, 3) := by decide +kernel
theorem dX5_init_48 : decode cX5_init 48 = .ok (.dup, 1) := by decide +kernel
theorem dX5_init_49 : decode cX5_init 49 = .ok (.invokespecial 37, 3) := by decide +kernel
theorem dX5_init_52 : decode cX5_init 52 = .ok (.putfield 38, 3) := by decide +kernel
theorem dX5_init_55 : decode cX5_init 55 = .ok (.aload_n 0, 1) := by decide +kernel
theorem dX5_init_56 : decode cX5_init 56 = .ok (.bipush 21, 2) := by decide +kernel
theorem dX5_init_58 : decode cX5_init 58 = .ok (.newarray .int, 2) := by decide +kernel
theorem dX5_init_60 : decode cX5_init 60 = .ok (.putfield 42, 3) := by decide +kernel
theorem dX5_init_63 : decode cX5_init 63 = .ok (.return_, 1) := by decide +kernel
theorem dX5_melt_0 : decode cX5_melt 0 = .ok (.iload_n 1, 1) := by decide +kernel
theorem dX5_melt_1 : decode cX5_melt 1 = .ok (.iconst 1, 1) := by decide +kernel
theorem dX5_melt_2 : decode cX5_melt 2 = .ok (.sipush 5000, 3) := by decide +kernel
theorem dX5_melt_5 : decode cX5_melt 5 = .ok (.invokestatic 46, 3) := by decide +kernel
theorem dX5_melt_8 : decode cX5_melt 8 = .ok (.ifCond .ne 13, 3) := by decide +kernel
theorem dX5_melt_11 : decode cX5_melt 11 = .ok (.new 50, 3) := by decide +kernel
theorem dX5_melt_14 : decode cX5_melt 14 = .ok (.dup, 1) := by decide +kernel
theorem dX5_melt_15 : decode cX5_melt 15 = .ok (.ldc 52, 2) := by decide +kernel
theorem dX5_melt_17 : decode cX5_melt 17 = .ok (.invokespecial 54, 3) := by decide +kernel
theorem dX5_melt_20 : decode cX5_melt 20 = .ok (.athrow, 1) := by decide +kernel
theorem dX5_melt_21 : decode cX5_melt 21 = .ok (.aload_n 0, 1) := by decide +kernel
theorem dX5_melt_22 : decode cX5_melt 22 = .ok (.getfield 10, 3) := by decide +kernel
theorem dX5_melt_25 : decode cX5_melt 25 = .ok (.getfield 57, 3) := by decide +kernel
theorem dX5_melt_28 : decode cX5_melt 28 = .ok (.iload_n 1, 1) := by decide +kernel
theorem dX5_melt_29 : decode cX5_melt 29 = .ok (.iadd, 1) := by decide +kernel
theorem dX5_melt_30 : decode cX5_melt 30 = .ok (.sipush 20000, 3) := by decide +kernel
theorem dX5_melt_33 : decode cX5_melt 33 = .ok (.if_icmp .le 13, 3) := by decide +kernel
theorem dX5_melt_36 : decode cX5_melt 36 = .ok (.new 61, 3) := by decide +kernel
theorem dX5_melt_39 : decode cX5_melt 39 = .ok (.dup, 1) := by decide +kernel
theorem dX5_melt_40 : decode cX5_melt 40 = .ok (.ldc 63, 2) := by decide +kernel
theorem dX5_melt_42 : decode cX5_melt 42 = .ok (.invokespecial 65, 3) := by decide +kernel
theorem dX5_melt_45 : decode cX5_melt 45 = .ok (.athrow, 1) := by decide +kernel
theorem dX5_melt_46 : decode cX5_melt 46 = .ok (.aload_n 0, 1) := by decide +kernel
theorem dX5_melt_47 : decode cX5_melt 47 = .ok (.getfield 10, 3) := by decide +kernel
theorem dX5_melt_50 : decode cX5_melt 50 = .ok (.iload_n 1, 1) := by decide +kernel
theorem dX5_melt_51 : decode cX5_melt 51 = .ok (.invokevirtual 66, 3) := by decide +kernel
theorem dX5_melt_54 : decode cX5_melt 54 = .ok (.aload_n 0, 1) := by decide +kernel
theorem dX5_melt_55 : decode cX5_melt 55 = .ok (.getfield 10, 3) := by decide +kernel
theorem dX5_melt_58 : decode cX5_melt 58 = .ok (.getfield 70, 3) := by decide +kernel
theorem dX5_melt_61 : decode cX5_melt 61 = .ok (.ireturn, 1) := by decide +kernel
theorem dX5_setFire_0 : decode cX5_setFire 0 = .ok (.iload_n 1, 1) := by decide +kernel
theorem dX5_setFire_1 : decode cX5_setFire 1 = .ok (.iconst 0, 1) := by decide +kernel
theorem dX5_setFire_2 : decode cX5_setFire 2 = .ok (.iconst 5, 1) := by decide +kernel
theorem dX5_setFire_3 : decode cX5_setFire 3 = .ok (.invokestatic 46, 3) := by decide +kernel
theorem dX5_setFire_6 : decode cX5_setFire 6 = .ok (.ifCond .ne 13, 3) := by decide +kernel
theorem dX5_setFire_9 : decode cX5_setFire 9 = .ok (.new 50, 3) := by decide +kernel
theorem dX5_setFire_12 : decode cX5_setFire 12 = .ok (.dup, 1) := by decide +kernel
theorem dX5_setFire_13 : decode cX5_setFire 13 = .ok (.ldc 73, 2) := by decide +kernel
theorem dX5_setFire_15 : decode cX5_setFire 15 = .ok (.invokespecial 54, 3) := by decide +kernel
theorem dX5_setFire_18 : decode cX5_setFire 18 = .ok (.athrow, 1) := by decide +kernel
theorem dX5_setFire_19 : decode cX5_setFire 19 = .ok (.aload_n 0, 1) := by decide +kernel
theorem dX5_setFire_20 : decode cX5_setFire 20 = .ok (.getfield 10, 3) := by decide +kernel
theorem dX5_setFire_23 : decode cX5_setFire 23 = .ok (.getfield 75, 3) := by decide +kernel
theorem dX5_setFire_26 : decode cX5_setFire 26 = .ok (.istore_n 2, 1) := by decide +kernel
theorem dX5_setFire_27 : decode cX5_setFire 27 = .ok (.aload_n 0, 1) := by decide +kernel
theorem dX5_setFire_28 : decode cX5_setFire 28 = .ok (.getfield 10, 3) := by decide +kernel
theorem dX5_setFire_31 : decode cX5_setFire 31 = .ok (.iload_n 1, 1) := by decide +kernel
theorem dX5_setFire_32 : decode cX5_setFire 32 = .ok (.putfield 75, 3) := by decide +kernel
theorem dX5_setFire_35 : decode cX5_setFire 35 = .ok (.iload_n 2, 1) := by decide +kernel
theorem dX5_setFire_36 : decode cX5_setFire 36 = .ok (.ireturn, 1) := by decide +kernel
theorem dX5_vat_0 : decode cX5_vat 0 = .ok (.iload_n 1, 1) := by decide +kernel
theorem dX5_vat_1 : decode cX5_vat 1 = .ok (.tableswitch 71 0 3 #[31, 39, 47, 55], 31) := by decide +kernel
theorem dX5_vat_32 : decode cX5_vat 32 = .ok (.aload_n 0, 1) := by decide +kernel
theorem dX5_vat_33 : decode cX5_vat 33 = .ok (.getfield 10, 3) := by decide +kernel
theorem dX5_vat_36 : decode cX5_vat 36 = .ok (.getfield 57, 3) := by decide +kernel
theorem dX5_vat_39 : decode cX5_vat 39 = .ok (.ireturn, 1) := by decide +kernel
theorem dX5_vat_40 : decode cX5_vat 40 = .ok (.aload_n 0, 1) := by decide +kernel
theorem dX5_vat_41 : decode cX5_vat 41 = .ok (.getfield 10, 3) := by decide +kernel
theorem dX5_vat_44 : decode cX5_vat 44 = .ok (.getfield 70, 3) := by decide +kernel
theorem dX5_vat_47 : decode cX5_vat 47 = .ok (.ireturn, 1) := by decide +kernel
theorem dX5_vat_48 : decode cX5_vat 48 = .ok (.aload_n 0, 1) := by decide +kernel
theorem dX5_vat_49 : decode cX5_vat 49 = .ok (.getfield 10, 3) := by decide +kernel
theorem dX5_vat_52 : decode cX5_vat 52 = .ok (.getfield 75, 3) := by decide +kernel
theorem dX5_vat_55 : decode cX5_vat 55 = .ok (.ireturn, 1) := by decide +kernel
theorem dX5_vat_56 : decode cX5_vat 56 = .ok (.aload_n 0, 1) := by decide +kernel
theorem dX5_vat_57 : decode cX5_vat 57 = .ok (.getfield 10, 3) := by decide +kernel
theorem dX5_vat_60 : decode cX5_vat 60 = .ok (.invokevirtual 78, 3) := by decide +kernel
theorem dX5_vat_63 : decode cX5_vat 63 = .ok (.ifCond .eq 7, 3) := by decide +kernel
theorem dX5_vat_66 : decode cX5_vat 66 = .ok (.iconst 1, 1) := by decide +kernel
theorem dX5_vat_67 : decode cX5_vat 67 = .ok (.goto 4, 3) := by decide +kernel
theorem dX5_vat_70 : decode cX5_vat 70 = .ok (.iconst 0, 1) := by decide +kernel
theorem dX5_vat_71 : decode cX5_vat 71 = .ok (.ireturn, 1) := by decide +kernel
theorem dX5_vat_72 : decode cX5_vat 72 = .ok (.new 82, 3) := by decide +kernel
theorem dX5_vat_75 : decode cX5_vat 75 = .ok (.dup, 1) := by decide +kernel
theorem dX5_vat_76 : decode cX5_vat 76 = .ok (.ldc 84, 2) := by decide +kernel
theorem dX5_vat_78 : decode cX5_vat 78 = .ok (.invokespecial 86, 3) := by decide +kernel
theorem dX5_vat_81 : decode cX5_vat 81 = .ok (.athrow, 1) := by decide +kernel
theorem dX5_addFrame_0 : decode cX5_addFrame 0 = .ok (.iload_n 1, 1) := by decide +kernel
theorem dX5_addFrame_1 : decode cX5_addFrame 1 = .ok (.iconst 0, 1) := by decide +kernel
theorem dX5_addFrame_2 : decode cX5_addFrame 2 = .ok (.iconst 3, 1) := by decide +kernel
theorem dX5_addFrame_3 : decode cX5_addFrame 3 = .ok (.invokestatic 46, 3) := by decide +kernel
theorem dX5_addFrame_6 : decode cX5_addFrame 6 = .ok (.ifCond .eq 13, 3) := by decide +kernel
theorem dX5_addFrame_9 : decode cX5_addFrame 9 = .ok (.iload_n 2, 1) := by decide +kernel
theorem dX5_addFrame_10 : decode cX5_addFrame 10 = .ok (.iconst 1, 1) := by decide +kernel
theorem dX5_addFrame_11 : decode cX5_addFrame 11 = .ok (.bipush 20, 2) := by decide +kernel
theorem dX5_addFrame_13 : decode cX5_addFrame 13 = .ok (.invokestatic 46, 3) := by decide +kernel
theorem dX5_addFrame_16 : decode cX5_addFrame 16 = .ok (.ifCond .ne 13, 3) := by decide +kernel
theorem dX5_addFrame_19 : decode cX5_addFrame 19 = .ok (.new 50, 3) := by decide +kernel
theorem dX5_addFrame_22 : decode cX5_addFrame 22 = .ok (.dup, 1) := by decide +kernel
theorem dX5_addFrame_23 : decode cX5_addFrame 23 = .ok (.ldc 87, 2) := by decide +kernel
theorem dX5_addFrame_25 : decode cX5_addFrame 25 = .ok (.invokespecial 54, 3) := by decide +kernel
theorem dX5_addFrame_28 : decode cX5_addFrame 28 = .ok (.athrow, 1) := by decide +kernel
theorem dX5_addFrame_29 : decode cX5_addFrame 29 = .ok (.aload_n 0, 1) := by decide +kernel
theorem dX5_addFrame_30 : decode cX5_addFrame 30 = .ok (.invokevirtual 89, 3) := by decide +kernel
theorem dX5_addFrame_33 : decode cX5_addFrame 33 = .ok (.istore_n 3, 1) := by decide +kernel
theorem dX5_addFrame_34 : decode cX5_addFrame 34 = .ok (.iload_n 3, 1) := by decide +kernel
theorem dX5_addFrame_35 : decode cX5_addFrame 35 = .ok (.aload_n 0, 1) := by decide +kernel
theorem dX5_addFrame_36 : decode cX5_addFrame 36 = .ok (.getfield 18, 3) := by decide +kernel
theorem dX5_addFrame_39 : decode cX5_addFrame 39 = .ok (.arraylength, 1) := by decide +kernel
theorem dX5_addFrame_40 : decode cX5_addFrame 40 = .ok (.if_icmp .lt 13, 3) := by decide +kernel
theorem dX5_addFrame_43 : decode cX5_addFrame 43 = .ok (.new 61, 3) := by decide +kernel
theorem dX5_addFrame_46 : decode cX5_addFrame 46 = .ok (.dup, 1) := by decide +kernel
theorem dX5_addFrame_47 : decode cX5_addFrame 47 = .ok (.ldc 93, 2) := by decide +kernel
theorem dX5_addFrame_49 : decode cX5_addFrame 49 = .ok (.invokespecial 65, 3) := by decide +kernel
theorem dX5_addFrame_52 : decode cX5_addFrame 52 = .ok (.athrow, 1) := by decide +kernel
theorem dX5_addFrame_53 : decode cX5_addFrame 53 = .ok (.aload_n 0, 1) := by decide +kernel
theorem dX5_addFrame_54 : decode cX5_addFrame 54 = .ok (.getfield 18, 3) := by decide +kernel
theorem dX5_addFrame_57 : decode cX5_addFrame 57 = .ok (.iload_n 3, 1) := by decide +kernel
theorem dX5_addFrame_58 : decode cX5_addFrame 58 = .ok (.new 16, 3) := by decide +kernel
theorem dX5_addFrame_61 : decode cX5_addFrame 61 = .ok (.dup, 1) := by decide +kernel
theorem dX5_addFrame_62 : decode cX5_addFrame 62 = .ok (.iload_n 1, 1) := by decide +kernel
theorem dX5_addFrame_63 : decode cX5_addFrame 63 = .ok (.iload_n 2, 1) := by decide +kernel
theorem dX5_addFrame_64 : decode cX5_addFrame 64 = .ok (.invokespecial 95, 3) := by decide +kernel
theorem dX5_addFrame_67 : decode cX5_addFrame 67 = .ok (.aastore, 1) := by decide +kernel
theorem dX5_addFrame_68 : decode cX5_addFrame 68 = .ok (.iload_n 3, 1) := by decide +kernel
theorem dX5_addFrame_69 : decode cX5_addFrame 69 = .ok (.ireturn, 1) := by decide +kernel
theorem dX5_hang_0 : decode cX5_hang 0 = .ok (.aload_n 0, 1) := by decide +kernel
theorem dX5_hang_1 : decode cX5_hang 1 = .ok (.iload_n 1, 1) := by decide +kernel
theorem dX5_hang_2 : decode cX5_hang 2 = .ok (.invokevirtual 98, 3) := by decide +kernel
theorem dX5_hang_5 : decode cX5_hang 5 = .ok (.astore_n 3, 1) := by decide +kernel
theorem dX5_hang_6 : decode cX5_hang 6 = .ok (.iload_n 2, 1) := by decide +kernel
theorem dX5_hang_7 : decode cX5_hang 7 = .ok (.iconst 0, 1) := by decide +kernel
theorem dX5_hang_8 : decode cX5_hang 8 = .ok (.bipush 11, 2) := by decide +kernel
theorem dX5_hang_10 : decode cX5_hang 10 = .ok (.invokestatic 46, 3) := by decide +kernel
theorem dX5_hang_13 : decode cX5_hang 13 = .ok (.ifCond .ne 13, 3) := by decide +kernel
theorem dX5_hang_16 : decode cX5_hang 16 = .ok (.new 50, 3) := by decide +kernel
theorem dX5_hang_19 : decode cX5_hang 19 = .ok (.dup, 1) := by decide +kernel
theorem dX5_hang_20 : decode cX5_hang 20 = .ok (.ldc 102, 2) := by decide +kernel
theorem dX5_hang_22 : decode cX5_hang 22 = .ok (.invokespecial 54, 3) := by decide +kernel
theorem dX5_hang_25 : decode cX5_hang 25 = .ok (.athrow, 1) := by decide +kernel
theorem dX5_hang_26 : decode cX5_hang 26 = .ok (.aload_n 0, 1) := by decide +kernel
theorem dX5_hang_27 : decode cX5_hang 27 = .ok (.iload_n 2, 1) := by decide +kernel
theorem dX5_hang_28 : decode cX5_hang 28 = .ok (.invokevirtual 104, 3) := by decide +kernel
theorem dX5_hang_31 : decode cX5_hang 31 = .ok (.istore 4, 2) := by decide +kernel
theorem dX5_hang_33 : decode cX5_hang 33 = .ok (.iload 4, 2) := by decide +kernel
theorem dX5_hang_35 : decode cX5_hang 35 = .ok (.ifCond .lt 19, 3) := by decide +kernel
theorem dX5_hang_38 : decode cX5_hang 38 = .ok (.iload 4, 2) := by decide +kernel
theorem dX5_hang_40 : decode cX5_hang 40 = .ok (.iload_n 1, 1) := by decide +kernel
theorem dX5_hang_41 : decode cX5_hang 41 = .ok (.if_icmp .eq 13, 3) := by decide +kernel
theorem dX5_hang_44 : decode cX5_hang 44 = .ok (.new 61, 3) := by decide +kernel
theorem dX5_hang_47 : decode cX5_hang 47 = .ok (.dup, 1) := by decide +kernel
theorem dX5_hang_48 : decode cX5_hang 48 = .ok (.ldc 108, 2) := by decide +kernel
theorem dX5_hang_50 : decode cX5_hang 50 = .ok (.invokespecial 65, 3) := by decide +kernel
theorem dX5_hang_53 : decode cX5_hang 53 = .ok (.athrow, 1) := by decide +kernel
theorem dX5_hang_54 : decode cX5_hang 54 = .ok (.aload_n 3, 1) := by decide +kernel
theorem dX5_hang_55 : decode cX5_hang 55 = .ok (.getfield 110, 3) := by decide +kernel
theorem dX5_hang_58 : decode cX5_hang 58 = .ok (.istore 5, 2) := by decide +kernel
theorem dX5_hang_60 : decode cX5_hang 60 = .ok (.aload_n 3, 1) := by decide +kernel
theorem dX5_hang_61 : decode cX5_hang 61 = .ok (.iload_n 2, 1) := by decide +kernel
theorem dX5_hang_62 : decode cX5_hang 62 = .ok (.putfield 110, 3) := by decide +kernel
theorem dX5_hang_65 : decode cX5_hang 65 = .ok (.iload 5, 2) := by decide +kernel
theorem dX5_hang_67 : decode cX5_hang 67 = .ok (.ireturn, 1) := by decide +kernel
theorem dX5_layAside_0 : decode cX5_layAside 0 = .ok (.aload_n 0, 1) := by decide +kernel
theorem dX5_layAside_1 : decode cX5_layAside 1 = .ok (.iload_n 1, 1) := by decide +kernel
theorem dX5_layAside_2 : decode cX5_layAside 2 = .ok (.invokevirtual 98, 3) := by decide +kernel
theorem dX5_layAside_5 : decode cX5_layAside 5 = .ok (.astore_n 2, 1) := by decide +kernel
theorem dX5_layAside_6 : decode cX5_layAside 6 = .ok (.aload_n 2, 1) := by decide +kernel
theorem dX5_layAside_7 : decode cX5_layAside 7 = .ok (.invokevirtual 113, 3) := by decide +kernel
theorem dX5_layAside_10 : decode cX5_layAside 10 = .ok (.ifCond .ne 13, 3) := by decide +kernel
theorem dX5_layAside_13 : decode cX5_layAside 13 = .ok (.new 61, 3) := by decide +kernel
theorem dX5_layAside_16 : decode cX5_layAside 16 = .ok (.dup, 1) := by decide +kernel
theorem dX5_layAside_17 : decode cX5_layAside 17 = .ok (.ldc 116, 2) := by decide +kernel
theorem dX5_layAside_19 : decode cX5_layAside 19 = .ok (.invokespecial 65, 3) := by decide +kernel
theorem dX5_layAside_22 : decode cX5_layAside 22 = .ok (.athrow, 1) := by decide +kernel
theorem dX5_layAside_23 : decode cX5_layAside 23 = .ok (.aload_n 2, 1) := by decide +kernel
theorem dX5_layAside_24 : decode cX5_layAside 24 = .ok (.getfield 110, 3) := by decide +kernel
theorem dX5_layAside_27 : decode cX5_layAside 27 = .ok (.istore_n 3, 1) := by decide +kernel
theorem dX5_layAside_28 : decode cX5_layAside 28 = .ok (.aload_n 2, 1) := by decide +kernel
theorem dX5_layAside_29 : decode cX5_layAside 29 = .ok (.iconst (-1), 1) := by decide +kernel
theorem dX5_layAside_30 : decode cX5_layAside 30 = .ok (.putfield 110, 3) := by decide +kernel
theorem dX5_layAside_33 : decode cX5_layAside 33 = .ok (.iload_n 3, 1) := by decide +kernel
theorem dX5_layAside_34 : decode cX5_layAside 34 = .ok (.ireturn, 1) := by decide +kernel
theorem dX5_dip_0 : decode cX5_dip 0 = .ok (.aload_n 0, 1) := by decide +kernel
theorem dX5_dip_1 : decode cX5_dip 1 = .ok (.iload_n 1, 1) := by decide +kernel
theorem dX5_dip_2 : decode cX5_dip 2 = .ok (.invokevirtual 98, 3) := by decide +kernel
theorem dX5_dip_5 : decode cX5_dip 5 = .ok (.astore_n 2, 1) := by decide +kernel
theorem dX5_dip_6 : decode cX5_dip 6 = .ok (.aload_n 2, 1) := by decide +kernel
theorem dX5_dip_7 : decode cX5_dip 7 = .ok (.aload_n 0, 1) := by decide +kernel
theorem dX5_dip_8 : decode cX5_dip 8 = .ok (.getfield 10, 3) := by decide +kernel
theorem dX5_dip_11 : decode cX5_dip 11 = .ok (.invokevirtual 118, 3) := by decide +kernel
theorem dX5_dip_14 : decode cX5_dip 14 = .ok (.ifCond .ne 13, 3) := by decide +kernel
theorem dX5_dip_17 : decode cX5_dip 17 = .ok (.new 61, 3) := by decide +kernel
theorem dX5_dip_20 : decode cX5_dip 20 = .ok (.dup, 1) := by decide +kernel
theorem dX5_dip_21 : decode cX5_dip 21 = .ok (.ldc 122, 2) := by decide +kernel
theorem dX5_dip_23 : decode cX5_dip 23 = .ok (.invokespecial 65, 3) := by decide +kernel
theorem dX5_dip_26 : decode cX5_dip 26 = .ok (.athrow, 1) := by decide +kernel
theorem dX5_dip_27 : decode cX5_dip 27 = .ok (.aload_n 2, 1) := by decide +kernel
theorem dX5_dip_28 : decode cX5_dip 28 = .ok (.aload_n 0, 1) := by decide +kernel
theorem dX5_dip_29 : decode cX5_dip 29 = .ok (.getfield 10, 3) := by decide +kernel
theorem dX5_dip_32 : decode cX5_dip 32 = .ok (.invokevirtual 124, 3) := by decide +kernel
theorem dX5_dip_35 : decode cX5_dip 35 = .ok (.aload_n 0, 1) := by decide +kernel
theorem dX5_dip_36 : decode cX5_dip 36 = .ok (.dup, 1) := by decide +kernel
theorem dX5_dip_37 : decode cX5_dip 37 = .ok (.getfield 128, 3) := by decide +kernel
theorem dX5_dip_40 : decode cX5_dip 40 = .ok (.iconst 1, 1) := by decide +kernel
theorem dX5_dip_41 : decode cX5_dip 41 = .ok (.iadd, 1) := by decide +kernel
theorem dX5_dip_42 : decode cX5_dip 42 = .ok (.putfield 128, 3) := by decide +kernel
theorem dX5_dip_45 : decode cX5_dip 45 = .ok (.aload_n 0, 1) := by decide +kernel
theorem dX5_dip_46 : decode cX5_dip 46 = .ok (.aload_n 2, 1) := by decide +kernel
theorem dX5_dip_47 : decode cX5_dip 47 = .ok (.invokevirtual 131, 3) := by decide +kernel
theorem dX5_dip_50 : decode cX5_dip 50 = .ok (.aload_n 2, 1) := by decide +kernel
theorem dX5_dip_51 : decode cX5_dip 51 = .ok (.getfield 135, 3) := by decide +kernel
theorem dX5_dip_54 : decode cX5_dip 54 = .ok (.ireturn, 1) := by decide +kernel
theorem dX5_cutOff_0 : decode cX5_cutOff 0 = .ok (.aload_n 0, 1) := by decide +kernel
theorem dX5_cutOff_1 : decode cX5_cutOff 1 = .ok (.iload_n 1, 1) := by decide +kernel
theorem dX5_cutOff_2 : decode cX5_cutOff 2 = .ok (.invokevirtual 98, 3) := by decide +kernel
theorem dX5_cutOff_5 : decode cX5_cutOff 5 = .ok (.astore_n 2, 1) := by decide +kernel
theorem dX5_cutOff_6 : decode cX5_cutOff 6 = .ok (.aload_n 2, 1) := by decide +kernel
theorem dX5_cutOff_7 : decode cX5_cutOff 7 = .ok (.invokevirtual 138, 3) := by decide +kernel
theorem dX5_cutOff_10 : decode cX5_cutOff 10 = .ok (.ifCond .ne 10, 3) := by decide +kernel
theorem dX5_cutOff_13 : decode cX5_cutOff 13 = .ok (.aload_n 2, 1) := by decide +kernel
theorem dX5_cutOff_14 : decode cX5_cutOff 14 = .ok (.invokevirtual 141, 3) := by decide +kernel
theorem dX5_cutOff_17 : decode cX5_cutOff 17 = .ok (.ifCond .eq 13, 3) := by decide +kernel
theorem dX5_cutOff_20 : decode cX5_cutOff 20 = .ok (.new 61, 3) := by decide +kernel
theorem dX5_cutOff_23 : decode cX5_cutOff 23 = .ok (.dup, 1) := by decide +kernel
theorem dX5_cutOff_24 : decode cX5_cutOff 24 = .ok (.ldc 144, 2) := by decide +kernel
theorem dX5_cutOff_26 : decode cX5_cutOff 26 = .ok (.invokespecial 65, 3) := by decide +kernel
