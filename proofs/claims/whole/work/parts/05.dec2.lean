theorem dX5_dipsTo_40 : decode cX5_dipsTo 40 = .ok (.invokevirtual 113, 3) := by decide +kernel
theorem dX5_dipsTo_43 : decode cX5_dipsTo 43 = .ok (.ifCond .ne 13, 3) := by decide +kernel
theorem dX5_dipsTo_46 : decode cX5_dipsTo 46 = .ok (.new 61, 3) := by decide +kernel
theorem dX5_dipsTo_49 : decode cX5_dipsTo 49 = .ok (.dup, 1) := by decide +kernel
theorem dX5_dipsTo_50 : decode cX5_dipsTo 50 = .ok (.ldc 251, 2) := by decide +kernel
theorem dX5_dipsTo_52 : decode cX5_dipsTo 52 = .ok (.invokespecial 65, 3) := by decide +kernel
theorem dX5_dipsTo_55 : decode cX5_dipsTo 55 = .ok (.athrow, 1) := by decide +kernel
theorem dX5_dipsTo_56 : decode cX5_dipsTo 56 = .ok (.aload_n 0, 1) := by decide +kernel
theorem dX5_dipsTo_57 : decode cX5_dipsTo 57 = .ok (.getfield 38, 3) := by decide +kernel
theorem dX5_dipsTo_60 : decode cX5_dipsTo 60 = .ok (.aload 4, 2) := by decide +kernel
theorem dX5_dipsTo_62 : decode cX5_dipsTo 62 = .ok (.aload_n 0, 1) := by decide +kernel
theorem dX5_dipsTo_63 : decode cX5_dipsTo 63 = .ok (.getfield 10, 3) := by decide +kernel
theorem dX5_dipsTo_66 : decode cX5_dipsTo 66 = .ok (.iload_n 2, 1) := by decide +kernel
theorem dX5_dipsTo_67 : decode cX5_dipsTo 67 = .ok (.iload_n 3, 1) := by decide +kernel
theorem dX5_dipsTo_68 : decode cX5_dipsTo 68 = .ok (.invokevirtual 259, 3) := by decide +kernel
theorem dX5_dipsTo_71 : decode cX5_dipsTo 71 = .ok (.ireturn, 1) := by decide +kernel
theorem dX5_bestRest_0 : decode cX5_bestRest 0 = .ok (.aload_n 0, 1) := by decide +kernel
theorem dX5_bestRest_1 : decode cX5_bestRest 1 = .ok (.iload_n 1, 1) := by decide +kernel
theorem dX5_bestRest_2 : decode cX5_bestRest 2 = .ok (.invokevirtual 98, 3) := by decide +kernel
theorem dX5_bestRest_5 : decode cX5_bestRest 5 = .ok (.astore_n 3, 1) := by decide +kernel
theorem dX5_bestRest_6 : decode cX5_bestRest 6 = .ok (.iload_n 2, 1) := by decide +kernel
theorem dX5_bestRest_7 : decode cX5_bestRest 7 = .ok (.iconst 1, 1) := by decide +kernel
theorem dX5_bestRest_8 : decode cX5_bestRest 8 = .ok (.bipush 9, 2) := by decide +kernel
theorem dX5_bestRest_10 : decode cX5_bestRest 10 = .ok (.invokestatic 46, 3) := by decide +kernel
theorem dX5_bestRest_13 : decode cX5_bestRest 13 = .ok (.ifCond .ne 14, 3) := by decide +kernel
theorem dX5_bestRest_16 : decode cX5_bestRest 16 = .ok (.new 50, 3) := by decide +kernel
theorem dX5_bestRest_19 : decode cX5_bestRest 19 = .ok (.dup, 1) := by decide +kernel
theorem dX5_bestRest_20 : decode cX5_bestRest 20 = .ok (.ldc_w 263, 3) := by decide +kernel
theorem dX5_bestRest_23 : decode cX5_bestRest 23 = .ok (.invokespecial 54, 3) := by decide +kernel
theorem dX5_bestRest_26 : decode cX5_bestRest 26 = .ok (.athrow, 1) := by decide +kernel
theorem dX5_bestRest_27 : decode cX5_bestRest 27 = .ok (.aload_n 3, 1) := by decide +kernel
theorem dX5_bestRest_28 : decode cX5_bestRest 28 = .ok (.invokevirtual 113, 3) := by decide +kernel
theorem dX5_bestRest_31 : decode cX5_bestRest 31 = .ok (.ifCond .ne 13, 3) := by decide +kernel
theorem dX5_bestRest_34 : decode cX5_bestRest 34 = .ok (.new 61, 3) := by decide +kernel
theorem dX5_bestRest_37 : decode cX5_bestRest 37 = .ok (.dup, 1) := by decide +kernel
theorem dX5_bestRest_38 : decode cX5_bestRest 38 = .ok (.ldc 251, 2) := by decide +kernel
theorem dX5_bestRest_40 : decode cX5_bestRest 40 = .ok (.invokespecial 65, 3) := by decide +kernel
theorem dX5_bestRest_43 : decode cX5_bestRest 43 = .ok (.athrow, 1) := by decide +kernel
theorem dX5_bestRest_44 : decode cX5_bestRest 44 = .ok (.aload_n 0, 1) := by decide +kernel
theorem dX5_bestRest_45 : decode cX5_bestRest 45 = .ok (.getfield 38, 3) := by decide +kernel
theorem dX5_bestRest_48 : decode cX5_bestRest 48 = .ok (.aload_n 3, 1) := by decide +kernel
theorem dX5_bestRest_49 : decode cX5_bestRest 49 = .ok (.aload_n 0, 1) := by decide +kernel
theorem dX5_bestRest_50 : decode cX5_bestRest 50 = .ok (.getfield 10, 3) := by decide +kernel
theorem dX5_bestRest_53 : decode cX5_bestRest 53 = .ok (.iload_n 2, 1) := by decide +kernel
theorem dX5_bestRest_54 : decode cX5_bestRest 54 = .ok (.invokevirtual 265, 3) := by decide +kernel
theorem dX5_bestRest_57 : decode cX5_bestRest 57 = .ok (.ireturn, 1) := by decide +kernel
theorem dX5_advise_0 : decode cX5_advise 0 = .ok (.iconst (-1), 1) := by decide +kernel
theorem dX5_advise_1 : decode cX5_advise 1 = .ok (.istore_n 1, 1) := by decide +kernel
theorem dX5_advise_2 : decode cX5_advise 2 = .ok (.iconst 0, 1) := by decide +kernel
theorem dX5_advise_3 : decode cX5_advise 3 = .ok (.istore_n 2, 1) := by decide +kernel
theorem dX5_advise_4 : decode cX5_advise 4 = .ok (.iconst 0, 1) := by decide +kernel
theorem dX5_advise_5 : decode cX5_advise 5 = .ok (.istore_n 3, 1) := by decide +kernel
theorem dX5_advise_6 : decode cX5_advise 6 = .ok (.iload_n 3, 1) := by decide +kernel
theorem dX5_advise_7 : decode cX5_advise 7 = .ok (.aload_n 0, 1) := by decide +kernel
theorem dX5_advise_8 : decode cX5_advise 8 = .ok (.getfield 18, 3) := by decide +kernel
theorem dX5_advise_11 : decode cX5_advise 11 = .ok (.arraylength, 1) := by decide +kernel
theorem dX5_advise_12 : decode cX5_advise 12 = .ok (.if_icmp .ge 65, 3) := by decide +kernel
theorem dX5_advise_15 : decode cX5_advise 15 = .ok (.aload_n 0, 1) := by decide +kernel
theorem dX5_advise_16 : decode cX5_advise 16 = .ok (.getfield 18, 3) := by decide +kernel
theorem dX5_advise_19 : decode cX5_advise 19 = .ok (.iload_n 3, 1) := by decide +kernel
theorem dX5_advise_20 : decode cX5_advise 20 = .ok (.aaload, 1) := by decide +kernel
theorem dX5_advise_21 : decode cX5_advise 21 = .ok (.astore 4, 2) := by decide +kernel
theorem dX5_advise_23 : decode cX5_advise 23 = .ok (.aload 4, 2) := by decide +kernel
theorem dX5_advise_25 : decode cX5_advise 25 = .ok (.ifnull 46, 3) := by decide +kernel
theorem dX5_advise_28 : decode cX5_advise 28 = .ok (.aload 4, 2) := by decide +kernel
theorem dX5_advise_30 : decode cX5_advise 30 = .ok (.aload_n 0, 1) := by decide +kernel
theorem dX5_advise_31 : decode cX5_advise 31 = .ok (.getfield 10, 3) := by decide +kernel
theorem dX5_advise_34 : decode cX5_advise 34 = .ok (.invokevirtual 118, 3) := by decide +kernel
theorem dX5_advise_37 : decode cX5_advise 37 = .ok (.ifCond .eq 34, 3) := by decide +kernel
theorem dX5_advise_40 : decode cX5_advise 40 = .ok (.aload 4, 2) := by decide +kernel
theorem dX5_advise_42 : decode cX5_advise 42 = .ok (.aload_n 0, 1) := by decide +kernel
theorem dX5_advise_43 : decode cX5_advise 43 = .ok (.getfield 10, 3) := by decide +kernel
theorem dX5_advise_46 : decode cX5_advise 46 = .ok (.getfield 70, 3) := by decide +kernel
theorem dX5_advise_49 : decode cX5_advise 49 = .ok (.invokevirtual 268, 3) := by decide +kernel
theorem dX5_advise_52 : decode cX5_advise 52 = .ok (.iload_n 2, 1) := by decide +kernel
theorem dX5_advise_53 : decode cX5_advise 53 = .ok (.if_icmp .le 18, 3) := by decide +kernel
theorem dX5_advise_56 : decode cX5_advise 56 = .ok (.iload_n 3, 1) := by decide +kernel
theorem dX5_advise_57 : decode cX5_advise 57 = .ok (.istore_n 1, 1) := by decide +kernel
theorem dX5_advise_58 : decode cX5_advise 58 = .ok (.aload 4, 2) := by decide +kernel
theorem dX5_advise_60 : decode cX5_advise 60 = .ok (.aload_n 0, 1) := by decide +kernel
theorem dX5_advise_61 : decode cX5_advise 61 = .ok (.getfield 10, 3) := by decide +kernel
theorem dX5_advise_64 : decode cX5_advise 64 = .ok (.getfield 70, 3) := by decide +kernel
theorem dX5_advise_67 : decode cX5_advise 67 = .ok (.invokevirtual 268, 3) := by decide +kernel
theorem dX5_advise_70 : decode cX5_advise 70 = .ok (.istore_n 2, 1) := by decide +kernel
theorem dX5_advise_71 : decode cX5_advise 71 = .ok (.iinc 3 1, 3) := by decide +kernel
theorem dX5_advise_74 : decode cX5_advise 74 = .ok (.goto (-68), 3) := by decide +kernel
theorem dX5_advise_77 : decode cX5_advise 77 = .ok (.iload_n 1, 1) := by decide +kernel
theorem dX5_advise_78 : decode cX5_advise 78 = .ok (.ireturn, 1) := by decide +kernel
theorem dX5_possible_0 : decode cX5_possible 0 = .ok (.iconst 0, 1) := by decide +kernel
theorem dX5_possible_1 : decode cX5_possible 1 = .ok (.istore_n 1, 1) := by decide +kernel
theorem dX5_possible_2 : decode cX5_possible 2 = .ok (.iconst 0, 1) := by decide +kernel
theorem dX5_possible_3 : decode cX5_possible 3 = .ok (.istore_n 2, 1) := by decide +kernel
theorem dX5_possible_4 : decode cX5_possible 4 = .ok (.iload_n 2, 1) := by decide +kernel
theorem dX5_possible_5 : decode cX5_possible 5 = .ok (.iconst 4, 1) := by decide +kernel
theorem dX5_possible_6 : decode cX5_possible 6 = .ok (.if_icmp .ge 17, 3) := by decide +kernel
theorem dX5_possible_9 : decode cX5_possible 9 = .ok (.iload_n 1, 1) := by decide +kernel
theorem dX5_possible_10 : decode cX5_possible 10 = .ok (.aload_n 0, 1) := by decide +kernel
theorem dX5_possible_11 : decode cX5_possible 11 = .ok (.iload_n 2, 1) := by decide +kernel
theorem dX5_possible_12 : decode cX5_possible 12 = .ok (.invokevirtual 271, 3) := by decide +kernel
theorem dX5_possible_15 : decode cX5_possible 15 = .ok (.iadd, 1) := by decide +kernel
theorem dX5_possible_16 : decode cX5_possible 16 = .ok (.istore_n 1, 1) := by decide +kernel
theorem dX5_possible_17 : decode cX5_possible 17 = .ok (.iinc 2 1, 3) := by decide +kernel
theorem dX5_possible_20 : decode cX5_possible 20 = .ok (.goto (-16), 3) := by decide +kernel
theorem dX5_possible_23 : decode cX5_possible 23 = .ok (.iload_n 1, 1) := by decide +kernel
theorem dX5_possible_24 : decode cX5_possible 24 = .ok (.ireturn, 1) := by decide +kernel
theorem dX5_mean_0 : decode cX5_mean 0 = .ok (.iconst 0, 1) := by decide +kernel
theorem dX5_mean_1 : decode cX5_mean 1 = .ok (.istore_n 1, 1) := by decide +kernel
theorem dX5_mean_2 : decode cX5_mean 2 = .ok (.iconst 0, 1) := by decide +kernel
theorem dX5_mean_3 : decode cX5_mean 3 = .ok (.istore_n 2, 1) := by decide +kernel
theorem dX5_mean_4 : decode cX5_mean 4 = .ok (.aload_n 0, 1) := by decide +kernel
theorem dX5_mean_5 : decode cX5_mean 5 = .ok (.getfield 18, 3) := by decide +kernel
theorem dX5_mean_8 : decode cX5_mean 8 = .ok (.astore_n 3, 1) := by decide +kernel
theorem dX5_mean_9 : decode cX5_mean 9 = .ok (.aload_n 3, 1) := by decide +kernel
theorem dX5_mean_10 : decode cX5_mean 10 = .ok (.arraylength, 1) := by decide +kernel
theorem dX5_mean_11 : decode cX5_mean 11 = .ok (.istore 4, 2) := by decide +kernel
theorem dX5_mean_13 : decode cX5_mean 13 = .ok (.iconst 0, 1) := by decide +kernel
theorem dX5_mean_14 : decode cX5_mean 14 = .ok (.istore 5, 2) := by decide +kernel
theorem dX5_mean_16 : decode cX5_mean 16 = .ok (.iload 5, 2) := by decide +kernel
theorem dX5_mean_18 : decode cX5_mean 18 = .ok (.iload 4, 2) := by decide +kernel
theorem dX5_mean_20 : decode cX5_mean 20 = .ok (.if_icmp .ge 42, 3) := by decide +kernel
theorem dX5_mean_23 : decode cX5_mean 23 = .ok (.aload_n 3, 1) := by decide +kernel
theorem dX5_mean_24 : decode cX5_mean 24 = .ok (.iload 5, 2) := by decide +kernel
theorem dX5_mean_26 : decode cX5_mean 26 = .ok (.aaload, 1) := by decide +kernel
theorem dX5_mean_27 : decode cX5_mean 27 = .ok (.astore 6, 2) := by decide +kernel
theorem dX5_mean_29 : decode cX5_mean 29 = .ok (.aload 6, 2) := by decide +kernel
theorem dX5_mean_31 : decode cX5_mean 31 = .ok (.ifnull 25, 3) := by decide +kernel
theorem dX5_mean_34 : decode cX5_mean 34 = .ok (.iload_n 1, 1) := by decide +kernel
theorem dX5_mean_35 : decode cX5_mean 35 = .ok (.aload 6, 2) := by decide +kernel
theorem dX5_mean_37 : decode cX5_mean 37 = .ok (.getfield 135, 3) := by decide +kernel
theorem dX5_mean_40 : decode cX5_mean 40 = .ok (.aload 6, 2) := by decide +kernel
theorem dX5_mean_42 : decode cX5_mean 42 = .ok (.getfield 152, 3) := by decide +kernel
theorem dX5_mean_45 : decode cX5_mean 45 = .ok (.imul, 1) := by decide +kernel
theorem dX5_mean_46 : decode cX5_mean 46 = .ok (.iadd, 1) := by decide +kernel
theorem dX5_mean_47 : decode cX5_mean 47 = .ok (.istore_n 1, 1) := by decide +kernel
theorem dX5_mean_48 : decode cX5_mean 48 = .ok (.iload_n 2, 1) := by decide +kernel
theorem dX5_mean_49 : decode cX5_mean 49 = .ok (.aload 6, 2) := by decide +kernel
theorem dX5_mean_51 : decode cX5_mean 51 = .ok (.getfield 152, 3) := by decide +kernel
theorem dX5_mean_54 : decode cX5_mean 54 = .ok (.iadd, 1) := by decide +kernel
theorem dX5_mean_55 : decode cX5_mean 55 = .ok (.istore_n 2, 1) := by decide +kernel
theorem dX5_mean_56 : decode cX5_mean 56 = .ok (.iinc 5 1, 3) := by decide +kernel
theorem dX5_mean_59 : decode cX5_mean 59 = .ok (.goto (-43), 3) := by decide +kernel
theorem dX5_mean_62 : decode cX5_mean 62 = .ok (.iload_n 2, 1) := by decide +kernel
theorem dX5_mean_63 : decode cX5_mean 63 = .ok (.ifCond .le 11, 3) := by decide +kernel
theorem dX5_mean_66 : decode cX5_mean 66 = .ok (.iload_n 1, 1) := by decide +kernel
theorem dX5_mean_67 : decode cX5_mean 67 = .ok (.i2d, 1) := by decide +kernel
theorem dX5_mean_68 : decode cX5_mean 68 = .ok (.iload_n 2, 1) := by decide +kernel
theorem dX5_mean_69 : decode cX5_mean 69 = .ok (.i2d, 1) := by decide +kernel
theorem dX5_mean_70 : decode cX5_mean 70 = .ok (.ddiv, 1) := by decide +kernel
theorem dX5_mean_71 : decode cX5_mean 71 = .ok (.goto 4, 3) := by decide +kernel
theorem dX5_mean_74 : decode cX5_mean 74 = .ok (.dconst 0, 1) := by decide +kernel
theorem dX5_mean_75 : decode cX5_mean 75 = .ok (.dreturn, 1) := by decide +kernel
theorem dX5_digest_0 : decode cX5_digest 0 = .ok (.ldc2_w 274, 3) := by decide +kernel
theorem dX5_digest_3 : decode cX5_digest 3 = .ok (.lstore_n 1, 1) := by decide +kernel
theorem dX5_digest_4 : decode cX5_digest 4 = .ok (.iconst 0, 1) := by decide +kernel
theorem dX5_digest_5 : decode cX5_digest 5 = .ok (.istore_n 3, 1) := by decide +kernel
theorem dX5_digest_6 : decode cX5_digest 6 = .ok (.iload_n 3, 1) := by decide +kernel
theorem dX5_digest_7 : decode cX5_digest 7 = .ok (.bipush 8, 2) := by decide +kernel
theorem dX5_digest_9 : decode cX5_digest 9 = .ok (.if_icmp .gt 22, 3) := by decide +kernel
theorem dX5_digest_12 : decode cX5_digest 12 = .ok (.lload_n 1, 1) := by decide +kernel
theorem dX5_digest_13 : decode cX5_digest 13 = .ok (.ldc2_w 276, 3) := by decide +kernel
theorem dX5_digest_16 : decode cX5_digest 16 = .ok (.lmul, 1) := by decide +kernel
theorem dX5_digest_17 : decode cX5_digest 17 = .ok (.aload_n 0, 1) := by decide +kernel
theorem dX5_digest_18 : decode cX5_digest 18 = .ok (.iload_n 3, 1) := by decide +kernel
theorem dX5_digest_19 : decode cX5_digest 19 = .ok (.invokevirtual 278, 3) := by decide +kernel
theorem dX5_digest_22 : decode cX5_digest 22 = .ok (.i2l, 1) := by decide +kernel
theorem dX5_digest_23 : decode cX5_digest 23 = .ok (.ladd, 1) := by decide +kernel
theorem dX5_digest_24 : decode cX5_digest 24 = .ok (.lstore_n 1, 1) := by decide +kernel
theorem dX5_digest_25 : decode cX5_digest 25 = .ok (.iinc 3 1, 3) := by decide +kernel
theorem dX5_digest_28 : decode cX5_digest 28 = .ok (.goto (-22), 3) := by decide +kernel
theorem dX5_digest_31 : decode cX5_digest 31 = .ok (.iconst 0, 1) := by decide +kernel
theorem dX5_digest_32 : decode cX5_digest 32 = .ok (.istore_n 3, 1) := by decide +kernel
theorem dX5_digest_33 : decode cX5_digest 33 = .ok (.iload_n 3, 1) := by decide +kernel
theorem dX5_digest_34 : decode cX5_digest 34 = .ok (.iconst 3, 1) := by decide +kernel
theorem dX5_digest_35 : decode cX5_digest 35 = .ok (.if_icmp .gt 22, 3) := by decide +kernel
theorem dX5_digest_38 : decode cX5_digest 38 = .ok (.lload_n 1, 1) := by decide +kernel
theorem dX5_digest_39 : decode cX5_digest 39 = .ok (.ldc2_w 276, 3) := by decide +kernel
theorem dX5_digest_42 : decode cX5_digest 42 = .ok (.lmul, 1) := by decide +kernel
theorem dX5_digest_43 : decode cX5_digest 43 = .ok (.aload_n 0, 1) := by decide +kernel
theorem dX5_digest_44 : decode cX5_digest 44 = .ok (.iload_n 3, 1) := by decide +kernel
theorem dX5_digest_45 : decode cX5_digest 45 = .ok (.invokevirtual 281, 3) := by decide +kernel
theorem dX5_digest_48 : decode cX5_digest 48 = .ok (.i2l, 1) := by decide +kernel
theorem dX5_digest_49 : decode cX5_digest 49 = .ok (.ladd, 1) := by decide +kernel
theorem dX5_digest_50 : decode cX5_digest 50 = .ok (.lstore_n 1, 1) := by decide +kernel
theorem dX5_digest_51 : decode cX5_digest 51 = .ok (.iinc 3 1, 3) := by decide +kernel
theorem dX5_digest_54 : decode cX5_digest 54 = .ok (.goto (-21), 3) := by decide +kernel
theorem dX5_digest_57 : decode cX5_digest 57 = .ok (.iconst 0, 1) := by decide +kernel
theorem dX5_digest_58 : decode cX5_digest 58 = .ok (.istore_n 3, 1) := by decide +kernel
theorem dX5_digest_59 : decode cX5_digest 59 = .ok (.iload_n 3, 1) := by decide +kernel
theorem dX5_digest_60 : decode cX5_digest 60 = .ok (.aload_n 0, 1) := by decide +kernel
theorem dX5_digest_61 : decode cX5_digest 61 = .ok (.invokevirtual 89, 3) := by decide +kernel
theorem dX5_digest_64 : decode cX5_digest 64 = .ok (.if_icmp .ge 40, 3) := by decide +kernel
theorem dX5_digest_67 : decode cX5_digest 67 = .ok (.iconst 0, 1) := by decide +kernel
theorem dX5_digest_68 : decode cX5_digest 68 = .ok (.istore 4, 2) := by decide +kernel
theorem dX5_digest_70 : decode cX5_digest 70 = .ok (.iload 4, 2) := by decide +kernel
theorem dX5_digest_72 : decode cX5_digest 72 = .ok (.bipush 7, 2) := by decide +kernel
theorem dX5_digest_74 : decode cX5_digest 74 = .ok (.if_icmp .gt 24, 3) := by decide +kernel
theorem dX5_digest_77 : decode cX5_digest 77 = .ok (.lload_n 1, 1) := by decide +kernel
theorem dX5_digest_78 : decode cX5_digest 78 = .ok (.ldc2_w 276, 3) := by decide +kernel
theorem dX5_digest_81 : decode cX5_digest 81 = .ok (.lmul, 1) := by decide +kernel
theorem dX5_digest_82 : decode cX5_digest 82 = .ok (.aload_n 0, 1) := by decide +kernel
theorem dX5_digest_83 : decode cX5_digest 83 = .ok (.iload_n 3, 1) := by decide +kernel
theorem dX5_digest_84 : decode cX5_digest 84 = .ok (.iload 4, 2) := by decide +kernel
theorem dX5_digest_86 : decode cX5_digest 86 = .ok (.invokevirtual 283, 3) := by decide +kernel
theorem dX5_digest_89 : decode cX5_digest 89 = .ok (.i2l, 1) := by decide +kernel
theorem dX5_digest_90 : decode cX5_digest 90 = .ok (.ladd, 1) := by decide +kernel
theorem dX5_digest_91 : decode cX5_digest 91 = .ok (.lstore_n 1, 1) := by decide +kernel
theorem dX5_digest_92 : decode cX5_digest 92 = .ok (.iinc 4 1, 3) := by decide +kernel
theorem dX5_digest_95 : decode cX5_digest 95 = .ok (.goto (-25), 3) := by decide +kernel
theorem dX5_digest_98 : decode cX5_digest 98 = .ok (.iinc 3 1, 3) := by decide +kernel
theorem dX5_digest_101 : decode cX5_digest 101 = .ok (.goto (-42), 3) := by decide +kernel
theorem dX5_digest_104 : decode cX5_digest 104 = .ok (.iconst 0, 1) := by decide +kernel
theorem dX5_digest_105 : decode cX5_digest 105 = .ok (.istore_n 3, 1) := by decide +kernel
theorem dX5_digest_106 : decode cX5_digest 106 = .ok (.iload_n 3, 1) := by decide +kernel
theorem dX5_digest_107 : decode cX5_digest 107 = .ok (.iconst 4, 1) := by decide +kernel
theorem dX5_digest_108 : decode cX5_digest 108 = .ok (.if_icmp .ge 40, 3) := by decide +kernel
theorem dX5_digest_111 : decode cX5_digest 111 = .ok (.iconst 1, 1) := by decide +kernel
theorem dX5_digest_112 : decode cX5_digest 112 = .ok (.istore 4, 2) := by decide +kernel
theorem dX5_digest_114 : decode cX5_digest 114 = .ok (.iload 4, 2) := by decide +kernel
theorem dX5_digest_116 : decode cX5_digest 116 = .ok (.bipush 9, 2) := by decide +kernel
theorem dX5_digest_118 : decode cX5_digest 118 = .ok (.if_icmp .gt 24, 3) := by decide +kernel
theorem dX5_digest_121 : decode cX5_digest 121 = .ok (.lload_n 1, 1) := by decide +kernel
theorem dX5_digest_122 : decode cX5_digest 122 = .ok (.ldc2_w 276, 3) := by decide +kernel
theorem dX5_digest_125 : decode cX5_digest 125 = .ok (.lmul, 1) := by decide +kernel
theorem dX5_digest_126 : decode cX5_digest 126 = .ok (.aload_n 0, 1) := by decide +kernel
theorem dX5_digest_127 : decode cX5_digest 127 = .ok (.iload_n 3, 1) := by decide +kernel
theorem dX5_digest_128 : decode cX5_digest 128 = .ok (.iload 4, 2) := by decide +kernel
theorem dX5_digest_130 : decode cX5_digest 130 = .ok (.invokevirtual 286, 3) := by decide +kernel
theorem dX5_digest_133 : decode cX5_digest 133 = .ok (.i2l, 1) := by decide +kernel
theorem dX5_digest_134 : decode cX5_digest 134 = .ok (.ladd, 1) := by decide +kernel
theorem dX5_digest_135 : decode cX5_digest 135 = .ok (.lstore_n 1, 1) := by decide +kernel
theorem dX5_digest_136 : decode cX5_digest 136 = .ok (.iinc 4 1, 3) := by decide +kernel
theorem dX5_digest_139 : decode cX5_digest 139 = .ok (.goto (-25), 3) := by decide +kernel
theorem dX5_digest_142 : decode cX5_digest 142 = .ok (.iinc 3 1, 3) := by decide +kernel
theorem dX5_digest_145 : decode cX5_digest 145 = .ok (.goto (-39), 3) := by decide +kernel
theorem dX5_digest_148 : decode cX5_digest 148 = .ok (.iconst 0, 1) := by decide +kernel
theorem dX5_digest_149 : decode cX5_digest 149 = .ok (.istore_n 3, 1) := by decide +kernel
theorem dX5_digest_150 : decode cX5_digest 150 = .ok (.iload_n 3, 1) := by decide +kernel
theorem dX5_digest_151 : decode cX5_digest 151 = .ok (.aload_n 0, 1) := by decide +kernel
theorem dX5_digest_152 : decode cX5_digest 152 = .ok (.invokevirtual 200, 3) := by decide +kernel
theorem dX5_digest_155 : decode cX5_digest 155 = .ok (.if_icmp .ge 39, 3) := by decide +kernel
theorem dX5_digest_158 : decode cX5_digest 158 = .ok (.iconst 0, 1) := by decide +kernel
theorem dX5_digest_159 : decode cX5_digest 159 = .ok (.istore 4, 2) := by decide +kernel
theorem dX5_digest_161 : decode cX5_digest 161 = .ok (.iload 4, 2) := by decide +kernel
theorem dX5_digest_163 : decode cX5_digest 163 = .ok (.iconst 5, 1) := by decide +kernel
theorem dX5_digest_164 : decode cX5_digest 164 = .ok (.if_icmp .gt 24, 3) := by decide +kernel
theorem dX5_digest_167 : decode cX5_digest 167 = .ok (.lload_n 1, 1) := by decide +kernel
theorem dX5_digest_168 : decode cX5_digest 168 = .ok (.ldc2_w 276, 3) := by decide +kernel
theorem dX5_digest_171 : decode cX5_digest 171 = .ok (.lmul, 1) := by decide +kernel
theorem dX5_digest_172 : decode cX5_digest 172 = .ok (.aload_n 0, 1) := by decide +kernel
theorem dX5_digest_173 : decode cX5_digest 173 = .ok (.iload_n 3, 1) := by decide +kernel
theorem dX5_digest_174 : decode cX5_digest 174 = .ok (.iload 4, 2) := by decide +kernel
theorem dX5_digest_176 : decode cX5_digest 176 = .ok (.invokevirtual 288, 3) := by decide +kernel
theorem dX5_digest_179 : decode cX5_digest 179 = .ok (.i2l, 1) := by decide +kernel
theorem dX5_digest_180 : decode cX5_digest 180 = .ok (.ladd, 1) := by decide +kernel
theorem dX5_digest_181 : decode cX5_digest 181 = .ok (.lstore_n 1, 1) := by decide +kernel
theorem dX5_digest_182 : decode cX5_digest 182 = .ok (.iinc 4 1, 3) := by decide +kernel
theorem dX5_digest_185 : decode cX5_digest 185 = .ok (.goto (-24), 3) := by decide +kernel
theorem dX5_digest_188 : decode cX5_digest 188 = .ok (.iinc 3 1, 3) := by decide +kernel
theorem dX5_digest_191 : decode cX5_digest 191 = .ok (.goto (-41), 3) := by decide +kernel
theorem dX5_digest_194 : decode cX5_digest 194 = .ok (.lload_n 1, 1) := by decide +kernel
theorem dX5_digest_195 : decode cX5_digest 195 = .ok (.lreturn, 1) := by decide +kernel
theorem dX5_within_0 : decode cX5_within 0 = .ok (.iload_n 0, 1) := by decide +kernel
theorem dX5_within_1 : decode cX5_within 1 = .ok (.iload_n 1, 1) := by decide +kernel
theorem dX5_within_2 : decode cX5_within 2 = .ok (.if_icmp .lt 12, 3) := by decide +kernel
theorem dX5_within_5 : decode cX5_within 5 = .ok (.iload_n 0, 1) := by decide +kernel
theorem dX5_within_6 : decode cX5_within 6 = .ok (.iload_n 2, 1) := by decide +kernel
theorem dX5_within_7 : decode cX5_within 7 = .ok (.if_icmp .gt 7, 3) := by decide +kernel
theorem dX5_within_10 : decode cX5_within 10 = .ok (.iconst 1, 1) := by decide +kernel
theorem dX5_within_11 : decode cX5_within 11 = .ok (.goto 4, 3) := by decide +kernel
theorem dX5_within_14 : decode cX5_within 14 = .ok (.iconst 0, 1) := by decide +kernel
theorem dX5_within_15 : decode cX5_within 15 = .ok (.ireturn, 1) := by decide +kernel
theorem dX5_frameAt_0 : decode cX5_frameAt 0 = .ok (.iload_n 1, 1) := by decide +kernel
theorem dX5_frameAt_1 : decode cX5_frameAt 1 = .ok (.ifCond .lt 21, 3) := by decide +kernel
theorem dX5_frameAt_4 : decode cX5_frameAt 4 = .ok (.iload_n 1, 1) := by decide +kernel
theorem dX5_frameAt_5 : decode cX5_frameAt 5 = .ok (.aload_n 0, 1) := by decide +kernel
theorem dX5_frameAt_6 : decode cX5_frameAt 6 = .ok (.getfield 18, 3) := by decide +kernel
theorem dX5_frameAt_9 : decode cX5_frameAt 9 = .ok (.arraylength, 1) := by decide +kernel
theorem dX5_frameAt_10 : decode cX5_frameAt 10 = .ok (.if_icmp .ge 12, 3) := by decide +kernel
theorem dX5_frameAt_13 : decode cX5_frameAt 13 = .ok (.aload_n 0, 1) := by decide +kernel
theorem dX5_frameAt_14 : decode cX5_frameAt 14 = .ok (.getfield 18, 3) := by decide +kernel
theorem dX5_frameAt_17 : decode cX5_frameAt 17 = .ok (.iload_n 1, 1) := by decide +kernel
theorem dX5_frameAt_18 : decode cX5_frameAt 18 = .ok (.aaload, 1) := by decide +kernel
theorem dX5_frameAt_19 : decode cX5_frameAt 19 = .ok (.ifnonnull 14, 3) := by decide +kernel
theorem dX5_frameAt_22 : decode cX5_frameAt 22 = .ok (.new 82, 3) := by decide +kernel
theorem dX5_frameAt_25 : decode cX5_frameAt 25 = .ok (.dup, 1) := by decide +kernel
theorem dX5_frameAt_26 : decode cX5_frameAt 26 = .ok (.ldc_w 291, 3) := by decide +kernel
theorem dX5_frameAt_29 : decode cX5_frameAt 29 = .ok (.invokespecial 86, 3) := by decide +kernel
theorem dX5_frameAt_32 : decode cX5_frameAt 32 = .ok (.athrow, 1) := by decide +kernel
theorem dX5_frameAt_33 : decode cX5_frameAt 33 = .ok (.aload_n 0, 1) := by decide +kernel
theorem dX5_frameAt_34 : decode cX5_frameAt 34 = .ok (.getfield 18, 3) := by decide +kernel
theorem dX5_frameAt_37 : decode cX5_frameAt 37 = .ok (.iload_n 1, 1) := by decide +kernel
theorem dX5_frameAt_38 : decode cX5_frameAt 38 = .ok (.aaload, 1) := by decide +kernel
theorem dX5_frameAt_39 : decode cX5_frameAt 39 = .ok (.areturn, 1) := by decide +kernel
theorem dX5_orderAt_0 : decode cX5_orderAt 0 = .ok (.iload_n 1, 1) := by decide +kernel
theorem dX5_orderAt_1 : decode cX5_orderAt 1 = .ok (.ifCond .lt 21, 3) := by decide +kernel
theorem dX5_orderAt_4 : decode cX5_orderAt 4 = .ok (.iload_n 1, 1) := by decide +kernel
theorem dX5_orderAt_5 : decode cX5_orderAt 5 = .ok (.aload_n 0, 1) := by decide +kernel
theorem dX5_orderAt_6 : decode cX5_orderAt 6 = .ok (.getfield 31, 3) := by decide +kernel
theorem dX5_orderAt_9 : decode cX5_orderAt 9 = .ok (.arraylength, 1) := by decide +kernel
theorem dX5_orderAt_10 : decode cX5_orderAt 10 = .ok (.if_icmp .ge 12, 3) := by decide +kernel
theorem dX5_orderAt_13 : decode cX5_orderAt 13 = .ok (.aload_n 0, 1) := by decide +kernel
theorem dX5_orderAt_14 : decode cX5_orderAt 14 = .ok (.getfield 31, 3) := by decide +kernel
theorem dX5_orderAt_17 : decode cX5_orderAt 17 = .ok (.iload_n 1, 1) := by decide +kernel
theorem dX5_orderAt_18 : decode cX5_orderAt 18 = .ok (.aaload, 1) := by decide +kernel
theorem dX5_orderAt_19 : decode cX5_orderAt 19 = .ok (.ifnonnull 14, 3) := by decide +kernel
theorem dX5_orderAt_22 : decode cX5_orderAt 22 = .ok (.new 82, 3) := by decide +kernel
theorem dX5_orderAt_25 : decode cX5_orderAt 25 = .ok (.dup, 1) := by decide +kernel
theorem dX5_orderAt_26 : decode cX5_orderAt 26 = .ok (.ldc_w 293, 3) := by decide +kernel
theorem dX5_orderAt_29 : decode cX5_orderAt 29 = .ok (.invokespecial 86, 3) := by decide +kernel
theorem dX5_orderAt_32 : decode cX5_orderAt 32 = .ok (.athrow, 1) := by decide +kernel
theorem dX5_orderAt_33 : decode cX5_orderAt 33 = .ok (.aload_n 0, 1) := by decide +kernel
theorem dX5_orderAt_34 : decode cX5_orderAt 34 = .ok (.getfield 31, 3) := by decide +kernel
theorem dX5_orderAt_37 : decode cX5_orderAt 37 = .ok (.iload_n 1, 1) := by decide +kernel
theorem dX5_orderAt_38 : decode cX5_orderAt 38 = .ok (.aaload, 1) := by decide +kernel
theorem dX5_orderAt_39 : decode cX5_orderAt 39 = .ok (.areturn, 1) := by decide +kernel
theorem dX5_frameOn_0 : decode cX5_frameOn 0 = .ok (.iconst 0, 1) := by decide +kernel
theorem dX5_frameOn_1 : decode cX5_frameOn 1 = .ok (.istore_n 2, 1) := by decide +kernel
theorem dX5_frameOn_2 : decode cX5_frameOn 2 = .ok (.iload_n 2, 1) := by decide +kernel
theorem dX5_frameOn_3 : decode cX5_frameOn 3 = .ok (.aload_n 0, 1) := by decide +kernel
theorem dX5_frameOn_4 : decode cX5_frameOn 4 = .ok (.getfield 18, 3) := by decide +kernel
theorem dX5_frameOn_7 : decode cX5_frameOn 7 = .ok (.arraylength, 1) := by decide +kernel
theorem dX5_frameOn_8 : decode cX5_frameOn 8 = .ok (.if_icmp .ge 33, 3) := by decide +kernel
theorem dX5_frameOn_11 : decode cX5_frameOn 11 = .ok (.aload_n 0, 1) := by decide +kernel
theorem dX5_frameOn_12 : decode cX5_frameOn 12 = .ok (.getfield 18, 3) := by decide +kernel
theorem dX5_frameOn_15 : decode cX5_frameOn 15 = .ok (.iload_n 2, 1) := by decide +kernel
theorem dX5_frameOn_16 : decode cX5_frameOn 16 = .ok (.aaload, 1) := by decide +kernel
theorem dX5_frameOn_17 : decode cX5_frameOn 17 = .ok (.ifnull 18, 3) := by decide +kernel
theorem dX5_frameOn_20 : decode cX5_frameOn 20 = .ok (.aload_n 0, 1) := by decide +kernel
theorem dX5_frameOn_21 : decode cX5_frameOn 21 = .ok (.getfield 18, 3) := by decide +kernel
theorem dX5_frameOn_24 : decode cX5_frameOn 24 = .ok (.iload_n 2, 1) := by decide +kernel
theorem dX5_frameOn_25 : decode cX5_frameOn 25 = .ok (.aaload, 1) := by decide +kernel
theorem dX5_frameOn_26 : decode cX5_frameOn 26 = .ok (.getfield 110, 3) := by decide +kernel
theorem dX5_frameOn_29 : decode cX5_frameOn 29 = .ok (.iload_n 1, 1) := by decide +kernel
theorem dX5_frameOn_30 : decode cX5_frameOn 30 = .ok (.if_icmp .ne 5, 3) := by decide +kernel
theorem dX5_frameOn_33 : decode cX5_frameOn 33 = .ok (.iload_n 2, 1) := by decide +kernel
theorem dX5_frameOn_34 : decode cX5_frameOn 34 = .ok (.ireturn, 1) := by decide +kernel
theorem dX5_frameOn_35 : decode cX5_frameOn 35 = .ok (.iinc 2 1, 3) := by decide +kernel
theorem dX5_frameOn_38 : decode cX5_frameOn 38 = .ok (.goto (-36), 3) := by decide +kernel
theorem dX5_frameOn_41 : decode cX5_frameOn 41 = .ok (.iconst (-1), 1) := by decide +kernel
theorem dX5_frameOn_42 : decode cX5_frameOn 42 = .ok (.ireturn, 1) := by decide +kernel
theorem dX5_framesMade_0 : decode cX5_framesMade 0 = .ok (.iconst 0, 1) := by decide +kernel
theorem dX5_framesMade_1 : decode cX5_framesMade 1 = .ok (.istore_n 1, 1) := by decide +kernel
theorem dX5_framesMade_2 : decode cX5_framesMade 2 = .ok (.aload_n 0, 1) := by decide +kernel
theorem dX5_framesMade_3 : decode cX5_framesMade 3 = .ok (.getfield 18, 3) := by decide +kernel
theorem dX5_framesMade_6 : decode cX5_framesMade 6 = .ok (.astore_n 2, 1) := by decide +kernel
theorem dX5_framesMade_7 : decode cX5_framesMade 7 = .ok (.aload_n 2, 1) := by decide +kernel
theorem dX5_framesMade_8 : decode cX5_framesMade 8 = .ok (.arraylength, 1) := by decide +kernel
theorem dX5_framesMade_9 : decode cX5_framesMade 9 = .ok (.istore_n 3, 1) := by decide +kernel
theorem dX5_framesMade_10 : decode cX5_framesMade 10 = .ok (.iconst 0, 1) := by decide +kernel
theorem dX5_framesMade_11 : decode cX5_framesMade 11 = .ok (.istore 4, 2) := by decide +kernel
theorem dX5_framesMade_13 : decode cX5_framesMade 13 = .ok (.iload 4, 2) := by decide +kernel
theorem dX5_framesMade_15 : decode cX5_framesMade 15 = .ok (.iload_n 3, 1) := by decide +kernel
theorem dX5_framesMade_16 : decode cX5_framesMade 16 = .ok (.if_icmp .ge 23, 3) := by decide +kernel
theorem dX5_framesMade_19 : decode cX5_framesMade 19 = .ok (.aload_n 2, 1) := by decide +kernel
theorem dX5_framesMade_20 : decode cX5_framesMade 20 = .ok (.iload 4, 2) := by decide +kernel
theorem dX5_framesMade_22 : decode cX5_framesMade 22 = .ok (.aaload, 1) := by decide +kernel
theorem dX5_framesMade_23 : decode cX5_framesMade 23 = .ok (.astore 5, 2) := by decide +kernel
theorem dX5_framesMade_25 : decode cX5_framesMade 25 = .ok (.aload 5, 2) := by decide +kernel
theorem dX5_framesMade_27 : decode cX5_framesMade 27 = .ok (.ifnull 6, 3) := by decide +kernel
theorem dX5_framesMade_30 : decode cX5_framesMade 30 = .ok (.iinc 1 1, 3) := by decide +kernel
theorem dX5_framesMade_33 : decode cX5_framesMade 33 = .ok (.iinc 4 1, 3) := by decide +kernel
theorem dX5_framesMade_36 : decode cX5_framesMade 36 = .ok (.goto (-23), 3) := by decide +kernel
theorem dX5_framesMade_39 : decode cX5_framesMade 39 = .ok (.iload_n 1, 1) := by decide +kernel
theorem dX5_framesMade_40 : decode cX5_framesMade 40 = .ok (.ireturn, 1) := by decide +kernel
theorem dX5_framesHanging_0 : decode cX5_framesHanging 0 = .ok (.iconst 0, 1) := by decide +kernel
theorem dX5_framesHanging_1 : decode cX5_framesHanging 1 = .ok (.istore_n 1, 1) := by decide +kernel
theorem dX5_framesHanging_2 : decode cX5_framesHanging 2 = .ok (.aload_n 0, 1) := by decide +kernel
theorem dX5_framesHanging_3 : decode cX5_framesHanging 3 = .ok (.getfield 18, 3) := by decide +kernel
theorem dX5_framesHanging_6 : decode cX5_framesHanging 6 = .ok (.astore_n 2, 1) := by decide +kernel
theorem dX5_framesHanging_7 : decode cX5_framesHanging 7 = .ok (.aload_n 2, 1) := by decide +kernel
theorem dX5_framesHanging_8 : decode cX5_framesHanging 8 = .ok (.arraylength, 1) := by decide +kernel
theorem dX5_framesHanging_9 : decode cX5_framesHanging 9 = .ok (.istore_n 3, 1) := by decide +kernel
theorem dX5_framesHanging_10 : decode cX5_framesHanging 10 = .ok (.iconst 0, 1) := by decide +kernel
theorem dX5_framesHanging_11 : decode cX5_framesHanging 11 = .ok (.istore 4, 2) := by decide +kernel
theorem dX5_framesHanging_13 : decode cX5_framesHanging 13 = .ok (.iload 4, 2) := by decide +kernel
theorem dX5_framesHanging_15 : decode cX5_framesHanging 15 = .ok (.iload_n 3, 1) := by decide +kernel
theorem dX5_framesHanging_16 : decode cX5_framesHanging 16 = .ok (.if_icmp .ge 31, 3) := by decide +kernel
theorem dX5_framesHanging_19 : decode cX5_framesHanging 19 = .ok (.aload_n 2, 1) := by decide +kernel
theorem dX5_framesHanging_20 : decode cX5_framesHanging 20 = .ok (.iload 4, 2) := by decide +kernel
theorem dX5_framesHanging_22 : decode cX5_framesHanging 22 = .ok (.aaload, 1) := by decide +kernel
theorem dX5_framesHanging_23 : decode cX5_framesHanging 23 = .ok (.astore 5, 2) := by decide +kernel
theorem dX5_framesHanging_25 : decode cX5_framesHanging 25 = .ok (.aload 5, 2) := by decide +kernel
theorem dX5_framesHanging_27 : decode cX5_framesHanging 27 = .ok (.ifnull 14, 3) := by decide +kernel
theorem dX5_framesHanging_30 : decode cX5_framesHanging 30 = .ok (.aload 5, 2) := by decide +kernel
theorem dX5_framesHanging_32 : decode cX5_framesHanging 32 = .ok (.invokevirtual 113, 3) := by decide +kernel
theorem dX5_framesHanging_35 : decode cX5_framesHanging 35 = .ok (.ifCond .eq 6, 3) := by decide +kernel
theorem dX5_framesHanging_38 : decode cX5_framesHanging 38 = .ok (.iinc 1 1, 3) := by decide +kernel
theorem dX5_framesHanging_41 : decode cX5_framesHanging 41 = .ok (.iinc 4 1, 3) := by decide +kernel
theorem dX5_framesHanging_44 : decode cX5_framesHanging 44 = .ok (.goto (-31), 3) := by decide +kernel
theorem dX5_framesHanging_47 : decode cX5_framesHanging 47 = .ok (.iload_n 1, 1) := by decide +kernel
theorem dX5_framesHanging_48 : decode cX5_framesHanging 48 = .ok (.ireturn, 1) := by decide +kernel
theorem dX5_ordersTaken_0 : decode cX5_ordersTaken 0 = .ok (.iconst 0, 1) := by decide +kernel
theorem dX5_ordersTaken_1 : decode cX5_ordersTaken 1 = .ok (.istore_n 1, 1) := by decide +kernel
theorem dX5_ordersTaken_2 : decode cX5_ordersTaken 2 = .ok (.aload_n 0, 1) := by decide +kernel
theorem dX5_ordersTaken_3 : decode cX5_ordersTaken 3 = .ok (.getfield 31, 3) := by decide +kernel
theorem dX5_ordersTaken_6 : decode cX5_ordersTaken 6 = .ok (.astore_n 2, 1) := by decide +kernel
theorem dX5_ordersTaken_7 : decode cX5_ordersTaken 7 = .ok (.aload_n 2, 1) := by decide +kernel
theorem dX5_ordersTaken_8 : decode cX5_ordersTaken 8 = .ok (.arraylength, 1) := by decide +kernel
theorem dX5_ordersTaken_9 : decode cX5_ordersTaken 9 = .ok (.istore_n 3, 1) := by decide +kernel
theorem dX5_ordersTaken_10 : decode cX5_ordersTaken 10 = .ok (.iconst 0, 1) := by decide +kernel
theorem dX5_ordersTaken_11 : decode cX5_ordersTaken 11 = .ok (.istore 4, 2) := by decide +kernel
theorem dX5_ordersTaken_13 : decode cX5_ordersTaken 13 = .ok (.iload 4, 2) := by decide +kernel
theorem dX5_ordersTaken_15 : decode cX5_ordersTaken 15 = .ok (.iload_n 3, 1) := by decide +kernel
theorem dX5_ordersTaken_16 : decode cX5_ordersTaken 16 = .ok (.if_icmp .ge 23, 3) := by decide +kernel
theorem dX5_ordersTaken_19 : decode cX5_ordersTaken 19 = .ok (.aload_n 2, 1) := by decide +kernel
theorem dX5_ordersTaken_20 : decode cX5_ordersTaken 20 = .ok (.iload 4, 2) := by decide +kernel
theorem dX5_ordersTaken_22 : decode cX5_ordersTaken 22 = .ok (.aaload, 1) := by decide +kernel
theorem dX5_ordersTaken_23 : decode cX5_ordersTaken 23 = .ok (.astore 5, 2) := by decide +kernel
theorem dX5_ordersTaken_25 : decode cX5_ordersTaken 25 = .ok (.aload 5, 2) := by decide +kernel
theorem dX5_ordersTaken_27 : decode cX5_ordersTaken 27 = .ok (.ifnull 6, 3) := by decide +kernel
theorem dX5_ordersTaken_30 : decode cX5_ordersTaken 30 = .ok (.iinc 1 1, 3) := by decide +kernel
theorem dX5_ordersTaken_33 : decode cX5_ordersTaken 33 = .ok (.iinc 4 1, 3) := by decide +kernel
theorem dX5_ordersTaken_36 : decode cX5_ordersTaken 36 = .ok (.goto (-23), 3) := by decide +kernel
theorem dX5_ordersTaken_39 : decode cX5_ordersTaken 39 = .ok (.iload_n 1, 1) := by decide +kernel
theorem dX5_ordersTaken_40 : decode cX5_ordersTaken 40 = .ok (.ireturn, 1) := by decide +kernel
theorem dX5_ordersInState_0 : decode cX5_ordersInState 0 = .ok (.iconst 0, 1) := by decide +kernel
theorem dX5_ordersInState_1 : decode cX5_ordersInState 1 = .ok (.istore_n 2, 1) := by decide +kernel
theorem dX5_ordersInState_2 : decode cX5_ordersInState 2 = .ok (.aload_n 0, 1) := by decide +kernel
theorem dX5_ordersInState_3 : decode cX5_ordersInState 3 = .ok (.getfield 31, 3) := by decide +kernel
theorem dX5_ordersInState_6 : decode cX5_ordersInState 6 = .ok (.astore_n 3, 1) := by decide +kernel
theorem dX5_ordersInState_7 : decode cX5_ordersInState 7 = .ok (.aload_n 3, 1) := by decide +kernel
theorem dX5_ordersInState_8 : decode cX5_ordersInState 8 = .ok (.arraylength, 1) := by decide +kernel
theorem dX5_ordersInState_9 : decode cX5_ordersInState 9 = .ok (.istore 4, 2) := by decide +kernel
theorem dX5_ordersInState_11 : decode cX5_ordersInState 11 = .ok (.iconst 0, 1) := by decide +kernel
theorem dX5_ordersInState_12 : decode cX5_ordersInState 12 = .ok (.istore 5, 2) := by decide +kernel
theorem dX5_ordersInState_14 : decode cX5_ordersInState 14 = .ok (.iload 5, 2) := by decide +kernel
theorem dX5_ordersInState_16 : decode cX5_ordersInState 16 = .ok (.iload 4, 2) := by decide +kernel
theorem dX5_ordersInState_18 : decode cX5_ordersInState 18 = .ok (.if_icmp .ge 32, 3) := by decide +kernel
theorem dX5_ordersInState_21 : decode cX5_ordersInState 21 = .ok (.aload_n 3, 1) := by decide +kernel
theorem dX5_ordersInState_22 : decode cX5_ordersInState 22 = .ok (.iload 5, 2) := by decide +kernel
theorem dX5_ordersInState_24 : decode cX5_ordersInState 24 = .ok (.aaload, 1) := by decide +kernel
theorem dX5_ordersInState_25 : decode cX5_ordersInState 25 = .ok (.astore 6, 2) := by decide +kernel
theorem dX5_ordersInState_27 : decode cX5_ordersInState 27 = .ok (.aload 6, 2) := by decide +kernel
theorem dX5_ordersInState_29 : decode cX5_ordersInState 29 = .ok (.ifnull 15, 3) := by decide +kernel
theorem dX5_ordersInState_32 : decode cX5_ordersInState 32 = .ok (.aload 6, 2) := by decide +kernel
theorem dX5_ordersInState_34 : decode cX5_ordersInState 34 = .ok (.getfield 228, 3) := by decide +kernel
theorem dX5_ordersInState_37 : decode cX5_ordersInState 37 = .ok (.iload_n 1, 1) := by decide +kernel
theorem dX5_ordersInState_38 : decode cX5_ordersInState 38 = .ok (.if_icmp .ne 6, 3) := by decide +kernel
theorem dX5_ordersInState_41 : decode cX5_ordersInState 41 = .ok (.iinc 2 1, 3) := by decide +kernel
theorem dX5_ordersInState_44 : decode cX5_ordersInState 44 = .ok (.iinc 5 1, 3) := by decide +kernel
theorem dX5_ordersInState_47 : decode cX5_ordersInState 47 = .ok (.goto (-33), 3) := by decide +kernel
theorem dX5_ordersInState_50 : decode cX5_ordersInState 50 = .ok (.iload_n 2, 1) := by decide +kernel
theorem dX5_ordersInState_51 : decode cX5_ordersInState 51 = .ok (.ireturn, 1) := by decide +kernel
theorem dX5_letQuarterGo_0 : decode cX5_letQuarterGo 0 = .ok (.aload_n 0, 1) := by decide +kernel
theorem dX5_letQuarterGo_1 : decode cX5_letQuarterGo 1 = .ok (.getfield 10, 3) := by decide +kernel
theorem dX5_letQuarterGo_4 : decode cX5_letQuarterGo 4 = .ok (.invokevirtual 295, 3) := by decide +kernel
theorem dX5_letQuarterGo_7 : decode cX5_letQuarterGo 7 = .ok (.aload_n 0, 1) := by decide +kernel
theorem dX5_letQuarterGo_8 : decode cX5_letQuarterGo 8 = .ok (.getfield 18, 3) := by decide +kernel
theorem dX5_letQuarterGo_11 : decode cX5_letQuarterGo 11 = .ok (.astore_n 2, 1) := by decide +kernel
theorem dX5_letQuarterGo_12 : decode cX5_letQuarterGo 12 = .ok (.aload_n 2, 1) := by decide +kernel
theorem dX5_letQuarterGo_13 : decode cX5_letQuarterGo 13 = .ok (.arraylength, 1) := by decide +kernel
theorem dX5_letQuarterGo_14 : decode cX5_letQuarterGo 14 = .ok (.istore_n 3, 1) := by decide +kernel
theorem dX5_letQuarterGo_15 : decode cX5_letQuarterGo 15 = .ok (.iconst 0, 1) := by decide +kernel
theorem dX5_letQuarterGo_16 : decode cX5_letQuarterGo 16 = .ok (.istore 4, 2) := by decide +kernel
theorem dX5_letQuarterGo_18 : decode cX5_letQuarterGo 18 = .ok (.iload 4, 2) := by decide +kernel
theorem dX5_letQuarterGo_20 : decode cX5_letQuarterGo 20 = .ok (.iload_n 3, 1) := by decide +kernel
theorem dX5_letQuarterGo_21 : decode cX5_letQuarterGo 21 = .ok (.if_icmp .ge 31, 3) := by decide +kernel
theorem dX5_letQuarterGo_24 : decode cX5_letQuarterGo 24 = .ok (.aload_n 2, 1) := by decide +kernel
theorem dX5_letQuarterGo_25 : decode cX5_letQuarterGo 25 = .ok (.iload 4, 2) := by decide +kernel
theorem dX5_letQuarterGo_27 : decode cX5_letQuarterGo 27 = .ok (.aaload, 1) := by decide +kernel
theorem dX5_letQuarterGo_28 : decode cX5_letQuarterGo 28 = .ok (.astore 5, 2) := by decide +kernel
theorem dX5_letQuarterGo_30 : decode cX5_letQuarterGo 30 = .ok (.aload 5, 2) := by decide +kernel
theorem dX5_letQuarterGo_32 : decode cX5_letQuarterGo 32 = .ok (.ifnull 14, 3) := by decide +kernel
theorem dX5_letQuarterGo_35 : decode cX5_letQuarterGo 35 = .ok (.aload 5, 2) := by decide +kernel
theorem dX5_letQuarterGo_37 : decode cX5_letQuarterGo 37 = .ok (.aload_n 1, 1) := by decide +kernel
theorem dX5_letQuarterGo_38 : decode cX5_letQuarterGo 38 = .ok (.if_acmp .eq 8, 3) := by decide +kernel
theorem dX5_letQuarterGo_41 : decode cX5_letQuarterGo 41 = .ok (.aload 5, 2) := by decide +kernel
theorem dX5_letQuarterGo_43 : decode cX5_letQuarterGo 43 = .ok (.invokevirtual 298, 3) := by decide +kernel
theorem dX5_letQuarterGo_46 : decode cX5_letQuarterGo 46 = .ok (.iinc 4 1, 3) := by decide +kernel
theorem dX5_letQuarterGo_49 : decode cX5_letQuarterGo 49 = .ok (.goto (-31), 3) := by decide +kernel
theorem dX5_letQuarterGo_52 : decode cX5_letQuarterGo 52 = .ok (.aload_n 0, 1) := by decide +kernel
theorem dX5_letQuarterGo_53 : decode cX5_letQuarterGo 53 = .ok (.dup, 1) := by decide +kernel
theorem dX5_letQuarterGo_54 : decode cX5_letQuarterGo 54 = .ok (.getfield 195, 3) := by decide +kernel
theorem dX5_letQuarterGo_57 : decode cX5_letQuarterGo 57 = .ok (.iconst 1, 1) := by decide +kernel
theorem dX5_letQuarterGo_58 : decode cX5_letQuarterGo 58 = .ok (.iadd, 1) := by decide +kernel
theorem dX5_letQuarterGo_59 : decode cX5_letQuarterGo 59 = .ok (.putfield 195, 3) := by decide +kernel
theorem dX5_letQuarterGo_62 : decode cX5_letQuarterGo 62 = .ok (.aload_n 0, 1) := by decide +kernel
theorem dX5_letQuarterGo_63 : decode cX5_letQuarterGo 63 = .ok (.getfield 195, 3) := by decide +kernel
theorem dX5_letQuarterGo_66 : decode cX5_letQuarterGo 66 = .ok (.bipush 40, 2) := by decide +kernel
theorem dX5_letQuarterGo_68 : decode cX5_letQuarterGo 68 = .ok (.irem, 1) := by decide +kernel
theorem dX5_letQuarterGo_69 : decode cX5_letQuarterGo 69 = .ok (.ifCond .ne 16, 3) := by decide +kernel
theorem dX5_letQuarterGo_72 : decode cX5_letQuarterGo 72 = .ok (.aload_n 0, 1) := by decide +kernel
theorem dX5_letQuarterGo_73 : decode cX5_letQuarterGo 73 = .ok (.aload_n 0, 1) := by decide +kernel
theorem dX5_letQuarterGo_74 : decode cX5_letQuarterGo 74 = .ok (.getfield 195, 3) := by decide +kernel
theorem dX5_letQuarterGo_77 : decode cX5_letQuarterGo 77 = .ok (.bipush 40, 2) := by decide +kernel
theorem dX5_letQuarterGo_79 : decode cX5_letQuarterGo 79 = .ok (.idiv, 1) := by decide +kernel
theorem dX5_letQuarterGo_80 : decode cX5_letQuarterGo 80 = .ok (.iconst 1, 1) := by decide +kernel
theorem dX5_letQuarterGo_81 : decode cX5_letQuarterGo 81 = .ok (.isub, 1) := by decide +kernel
theorem dX5_letQuarterGo_82 : decode cX5_letQuarterGo 82 = .ok (.invokevirtual 301, 3) := by decide +kernel
theorem dX5_letQuarterGo_85 : decode cX5_letQuarterGo 85 = .ok (.return_, 1) := by decide +kernel
theorem dX5_endDay_0 : decode cX5_endDay 0 = .ok (.aload_n 0, 1) := by decide +kernel
theorem dX5_endDay_1 : decode cX5_endDay 1 = .ok (.getfield 31, 3) := by decide +kernel
theorem dX5_endDay_4 : decode cX5_endDay 4 = .ok (.astore_n 2, 1) := by decide +kernel
theorem dX5_endDay_5 : decode cX5_endDay 5 = .ok (.aload_n 2, 1) := by decide +kernel
theorem dX5_endDay_6 : decode cX5_endDay 6 = .ok (.arraylength, 1) := by decide +kernel
theorem dX5_endDay_7 : decode cX5_endDay 7 = .ok (.istore_n 3, 1) := by decide +kernel
theorem dX5_endDay_8 : decode cX5_endDay 8 = .ok (.iconst 0, 1) := by decide +kernel
theorem dX5_endDay_9 : decode cX5_endDay 9 = .ok (.istore 4, 2) := by decide +kernel
theorem dX5_endDay_11 : decode cX5_endDay 11 = .ok (.iload 4, 2) := by decide +kernel
theorem dX5_endDay_13 : decode cX5_endDay 13 = .ok (.iload_n 3, 1) := by decide +kernel
theorem dX5_endDay_14 : decode cX5_endDay 14 = .ok (.if_icmp .ge 43, 3) := by decide +kernel
theorem dX5_endDay_17 : decode cX5_endDay 17 = .ok (.aload_n 2, 1) := by decide +kernel
theorem dX5_endDay_18 : decode cX5_endDay 18 = .ok (.iload 4, 2) := by decide +kernel
theorem dX5_endDay_20 : decode cX5_endDay 20 = .ok (.aaload, 1) := by decide +kernel
theorem dX5_endDay_21 : decode cX5_endDay 21 = .ok (.astore 5, 2) := by decide +kernel
theorem dX5_endDay_23 : decode cX5_endDay 23 = .ok (.aload 5, 2) := by decide +kernel
theorem dX5_endDay_25 : decode cX5_endDay 25 = .ok (.ifnull 26, 3) := by decide +kernel
theorem dX5_endDay_28 : decode cX5_endDay 28 = .ok (.aload 5, 2) := by decide +kernel
theorem dX5_endDay_30 : decode cX5_endDay 30 = .ok (.getfield 228, 3) := by decide +kernel
theorem dX5_endDay_33 : decode cX5_endDay 33 = .ok (.ifCond .ne 18, 3) := by decide +kernel
theorem dX5_endDay_36 : decode cX5_endDay 36 = .ok (.aload 5, 2) := by decide +kernel
theorem dX5_endDay_38 : decode cX5_endDay 38 = .ok (.getfield 234, 3) := by decide +kernel
theorem dX5_endDay_41 : decode cX5_endDay 41 = .ok (.iload_n 1, 1) := by decide +kernel
theorem dX5_endDay_42 : decode cX5_endDay 42 = .ok (.if_icmp .gt 9, 3) := by decide +kernel
theorem dX5_endDay_45 : decode cX5_endDay 45 = .ok (.aload 5, 2) := by decide +kernel
theorem dX5_endDay_47 : decode cX5_endDay 47 = .ok (.iconst 2, 1) := by decide +kernel
theorem dX5_endDay_48 : decode cX5_endDay 48 = .ok (.putfield 228, 3) := by decide +kernel
theorem dX5_endDay_51 : decode cX5_endDay 51 = .ok (.iinc 4 1, 3) := by decide +kernel
theorem dX5_endDay_54 : decode cX5_endDay 54 = .ok (.goto (-43), 3) := by decide +kernel
theorem dX5_endDay_57 : decode cX5_endDay 57 = .ok (.return_, 1) := by decide +kernel
theorem dX5_possibleOfKind_0 : decode cX5_possibleOfKind 0 = .ok (.iconst 0, 1) := by decide +kernel
theorem dX5_possibleOfKind_1 : decode cX5_possibleOfKind 1 = .ok (.istore_n 2, 1) := by decide +kernel
theorem dX5_possibleOfKind_2 : decode cX5_possibleOfKind 2 = .ok (.bipush 9, 2) := by decide +kernel
theorem dX5_possibleOfKind_4 : decode cX5_possibleOfKind 4 = .ok (.istore_n 3, 1) := by decide +kernel
theorem dX5_possibleOfKind_5 : decode cX5_possibleOfKind 5 = .ok (.iload_n 3, 1) := by decide +kernel
theorem dX5_possibleOfKind_6 : decode cX5_possibleOfKind 6 = .ok (.iconst 1, 1) := by decide +kernel
theorem dX5_possibleOfKind_7 : decode cX5_possibleOfKind 7 = .ok (.if_icmp .lt 82, 3) := by decide +kernel
theorem dX5_possibleOfKind_10 : decode cX5_possibleOfKind 10 = .ok (.aload_n 0, 1) := by decide +kernel
theorem dX5_possibleOfKind_11 : decode cX5_possibleOfKind 11 = .ok (.getfield 25, 3) := by decide +kernel
theorem dX5_possibleOfKind_14 : decode cX5_possibleOfKind 14 = .ok (.iload_n 1, 1) := by decide +kernel
theorem dX5_possibleOfKind_15 : decode cX5_possibleOfKind 15 = .ok (.iload_n 3, 1) := by decide +kernel
theorem dX5_possibleOfKind_16 : decode cX5_possibleOfKind 16 = .ok (.invokevirtual 304, 3) := by decide +kernel
theorem dX5_possibleOfKind_19 : decode cX5_possibleOfKind 19 = .ok (.istore 4, 2) := by decide +kernel
theorem dX5_possibleOfKind_21 : decode cX5_possibleOfKind 21 = .ok (.aload_n 0, 1) := by decide +kernel
theorem dX5_possibleOfKind_22 : decode cX5_possibleOfKind 22 = .ok (.getfield 31, 3) := by decide +kernel
theorem dX5_possibleOfKind_25 : decode cX5_possibleOfKind 25 = .ok (.astore 5, 2) := by decide +kernel
theorem dX5_possibleOfKind_27 : decode cX5_possibleOfKind 27 = .ok (.aload 5, 2) := by decide +kernel
theorem dX5_possibleOfKind_29 : decode cX5_possibleOfKind 29 = .ok (.arraylength, 1) := by decide +kernel
theorem dX5_possibleOfKind_30 : decode cX5_possibleOfKind 30 = .ok (.istore 6, 2) := by decide +kernel
theorem dX5_possibleOfKind_32 : decode cX5_possibleOfKind 32 = .ok (.iconst 0, 1) := by decide +kernel
theorem dX5_possibleOfKind_33 : decode cX5_possibleOfKind 33 = .ok (.istore 7, 2) := by decide +kernel
theorem dX5_possibleOfKind_35 : decode cX5_possibleOfKind 35 = .ok (.iload 7, 2) := by decide +kernel
theorem dX5_possibleOfKind_37 : decode cX5_possibleOfKind 37 = .ok (.iload 6, 2) := by decide +kernel
theorem dX5_possibleOfKind_39 : decode cX5_possibleOfKind 39 = .ok (.if_icmp .ge 44, 3) := by decide +kernel
theorem dX5_possibleOfKind_42 : decode cX5_possibleOfKind 42 = .ok (.aload 5, 2) := by decide +kernel
theorem dX5_possibleOfKind_44 : decode cX5_possibleOfKind 44 = .ok (.iload 7, 2) := by decide +kernel
theorem dX5_possibleOfKind_46 : decode cX5_possibleOfKind 46 = .ok (.aaload, 1) := by decide +kernel
theorem dX5_possibleOfKind_47 : decode cX5_possibleOfKind 47 = .ok (.astore 8, 2) := by decide +kernel
theorem dX5_possibleOfKind_49 : decode cX5_possibleOfKind 49 = .ok (.aload 8, 2) := by decide +kernel
theorem dX5_possibleOfKind_51 : decode cX5_possibleOfKind 51 = .ok (.ifnull 26, 3) := by decide +kernel
theorem dX5_possibleOfKind_54 : decode cX5_possibleOfKind 54 = .ok (.aload 8, 2) := by decide +kernel
theorem dX5_possibleOfKind_56 : decode cX5_possibleOfKind 56 = .ok (.iload_n 1, 1) := by decide +kernel
theorem dX5_possibleOfKind_57 : decode cX5_possibleOfKind 57 = .ok (.iload_n 3, 1) := by decide +kernel
theorem dX5_possibleOfKind_58 : decode cX5_possibleOfKind 58 = .ok (.invokevirtual 307, 3) := by decide +kernel
theorem dX5_possibleOfKind_61 : decode cX5_possibleOfKind 61 = .ok (.ifCond .eq 16, 3) := by decide +kernel
theorem dX5_possibleOfKind_64 : decode cX5_possibleOfKind 64 = .ok (.aload_n 0, 1) := by decide +kernel
theorem dX5_possibleOfKind_65 : decode cX5_possibleOfKind 65 = .ok (.iload_n 2, 1) := by decide +kernel
theorem dX5_possibleOfKind_66 : decode cX5_possibleOfKind 66 = .ok (.aload 8, 2) := by decide +kernel
theorem dX5_possibleOfKind_68 : decode cX5_possibleOfKind 68 = .ok (.getfield 222, 3) := by decide +kernel
theorem dX5_possibleOfKind_71 : decode cX5_possibleOfKind 71 = .ok (.iload 4, 2) := by decide +kernel
theorem dX5_possibleOfKind_73 : decode cX5_possibleOfKind 73 = .ok (.invokevirtual 310, 3) := by decide +kernel
theorem dX5_possibleOfKind_76 : decode cX5_possibleOfKind 76 = .ok (.istore_n 2, 1) := by decide +kernel
theorem dX5_possibleOfKind_77 : decode cX5_possibleOfKind 77 = .ok (.iinc 7 1, 3) := by decide +kernel
theorem dX5_possibleOfKind_80 : decode cX5_possibleOfKind 80 = .ok (.goto (-45), 3) := by decide +kernel
theorem dX5_possibleOfKind_83 : decode cX5_possibleOfKind 83 = .ok (.iinc 3 (-1), 3) := by decide +kernel
theorem dX5_possibleOfKind_86 : decode cX5_possibleOfKind 86 = .ok (.goto (-81), 3) := by decide +kernel
theorem dX5_possibleOfKind_89 : decode cX5_possibleOfKind 89 = .ok (.iload_n 2, 1) := by decide +kernel
theorem dX5_possibleOfKind_90 : decode cX5_possibleOfKind 90 = .ok (.ireturn, 1) := by decide +kernel
theorem dX5_planOneMore_0 : decode cX5_planOneMore 0 = .ok (.iload_n 1, 1) := by decide +kernel
theorem dX5_planOneMore_1 : decode cX5_planOneMore 1 = .ok (.iconst 1, 1) := by decide +kernel
theorem dX5_planOneMore_2 : decode cX5_planOneMore 2 = .ok (.iadd, 1) := by decide +kernel
theorem dX5_planOneMore_3 : decode cX5_planOneMore 3 = .ok (.istore 4, 2) := by decide +kernel
theorem dX5_planOneMore_5 : decode cX5_planOneMore 5 = .ok (.iload_n 1, 1) := by decide +kernel
theorem dX5_planOneMore_6 : decode cX5_planOneMore 6 = .ok (.ifCond .lt 13, 3) := by decide +kernel
theorem dX5_planOneMore_9 : decode cX5_planOneMore 9 = .ok (.iload 4, 2) := by decide +kernel
theorem dX5_planOneMore_11 : decode cX5_planOneMore 11 = .ok (.aload_n 0, 1) := by decide +kernel
theorem dX5_planOneMore_12 : decode cX5_planOneMore 12 = .ok (.getfield 42, 3) := by decide +kernel
theorem dX5_planOneMore_15 : decode cX5_planOneMore 15 = .ok (.arraylength, 1) := by decide +kernel
theorem dX5_planOneMore_16 : decode cX5_planOneMore 16 = .ok (.if_icmp .lt 5, 3) := by decide +kernel
theorem dX5_planOneMore_19 : decode cX5_planOneMore 19 = .ok (.iload_n 1, 1) := by decide +kernel
theorem dX5_planOneMore_20 : decode cX5_planOneMore 20 = .ok (.ireturn, 1) := by decide +kernel
theorem dX5_planOneMore_21 : decode cX5_planOneMore 21 = .ok (.aload_n 0, 1) := by decide +kernel
theorem dX5_planOneMore_22 : decode cX5_planOneMore 22 = .ok (.getfield 42, 3) := by decide +kernel
theorem dX5_planOneMore_25 : decode cX5_planOneMore 25 = .ok (.iload 4, 2) := by decide +kernel
theorem dX5_planOneMore_27 : decode cX5_planOneMore 27 = .ok (.aload_n 0, 1) := by decide +kernel
theorem dX5_planOneMore_28 : decode cX5_planOneMore 28 = .ok (.getfield 42, 3) := by decide +kernel
theorem dX5_planOneMore_31 : decode cX5_planOneMore 31 = .ok (.iload_n 1, 1) := by decide +kernel
theorem dX5_planOneMore_32 : decode cX5_planOneMore 32 = .ok (.iaload, 1) := by decide +kernel
theorem dX5_planOneMore_33 : decode cX5_planOneMore 33 = .ok (.iload_n 2, 1) := by decide +kernel
theorem dX5_planOneMore_34 : decode cX5_planOneMore 34 = .ok (.iadd, 1) := by decide +kernel
theorem dX5_planOneMore_35 : decode cX5_planOneMore 35 = .ok (.iastore, 1) := by decide +kernel
theorem dX5_planOneMore_36 : decode cX5_planOneMore 36 = .ok (.iload_n 1, 1) := by decide +kernel
theorem dX5_planOneMore_37 : decode cX5_planOneMore 37 = .ok (.istore 5, 2) := by decide +kernel
theorem dX5_planOneMore_39 : decode cX5_planOneMore 39 = .ok (.iload 5, 2) := by decide +kernel
theorem dX5_planOneMore_41 : decode cX5_planOneMore 41 = .ok (.iconst 1, 1) := by decide +kernel
theorem dX5_planOneMore_42 : decode cX5_planOneMore 42 = .ok (.if_icmp .lt 37, 3) := by decide +kernel
theorem dX5_planOneMore_45 : decode cX5_planOneMore 45 = .ok (.aload_n 0, 1) := by decide +kernel
theorem dX5_planOneMore_46 : decode cX5_planOneMore 46 = .ok (.getfield 42, 3) := by decide +kernel
theorem dX5_planOneMore_49 : decode cX5_planOneMore 49 = .ok (.iload 5, 2) := by decide +kernel
theorem dX5_planOneMore_51 : decode cX5_planOneMore 51 = .ok (.aload_n 0, 1) := by decide +kernel
theorem dX5_planOneMore_52 : decode cX5_planOneMore 52 = .ok (.getfield 42, 3) := by decide +kernel
theorem dX5_planOneMore_55 : decode cX5_planOneMore 55 = .ok (.iload 5, 2) := by decide +kernel
theorem dX5_planOneMore_57 : decode cX5_planOneMore 57 = .ok (.iaload, 1) := by decide +kernel
theorem dX5_planOneMore_58 : decode cX5_planOneMore 58 = .ok (.aload_n 0, 1) := by decide +kernel
theorem dX5_planOneMore_59 : decode cX5_planOneMore 59 = .ok (.getfield 42, 3) := by decide +kernel
theorem dX5_planOneMore_62 : decode cX5_planOneMore 62 = .ok (.iload 5, 2) := by decide +kernel
theorem dX5_planOneMore_64 : decode cX5_planOneMore 64 = .ok (.iconst 1, 1) := by decide +kernel
theorem dX5_planOneMore_65 : decode cX5_planOneMore 65 = .ok (.isub, 1) := by decide +kernel
theorem dX5_planOneMore_66 : decode cX5_planOneMore 66 = .ok (.iaload, 1) := by decide +kernel
theorem dX5_planOneMore_67 : decode cX5_planOneMore 67 = .ok (.iload_n 2, 1) := by decide +kernel
theorem dX5_planOneMore_68 : decode cX5_planOneMore 68 = .ok (.iadd, 1) := by decide +kernel
theorem dX5_planOneMore_69 : decode cX5_planOneMore 69 = .ok (.invokestatic 314, 3) := by decide +kernel
theorem dX5_planOneMore_72 : decode cX5_planOneMore 72 = .ok (.iastore, 1) := by decide +kernel
theorem dX5_planOneMore_73 : decode cX5_planOneMore 73 = .ok (.iinc 5 (-1), 3) := by decide +kernel
theorem dX5_planOneMore_76 : decode cX5_planOneMore 76 = .ok (.goto (-37), 3) := by decide +kernel
theorem dX5_planOneMore_79 : decode cX5_planOneMore 79 = .ok (.aload_n 0, 1) := by decide +kernel
theorem dX5_planOneMore_80 : decode cX5_planOneMore 80 = .ok (.getfield 42, 3) := by decide +kernel
theorem dX5_planOneMore_83 : decode cX5_planOneMore 83 = .ok (.iload 4, 2) := by decide +kernel
theorem dX5_planOneMore_85 : decode cX5_planOneMore 85 = .ok (.iaload, 1) := by decide +kernel
theorem dX5_planOneMore_86 : decode cX5_planOneMore 86 = .ok (.iload_n 3, 1) := by decide +kernel
theorem dX5_planOneMore_87 : decode cX5_planOneMore 87 = .ok (.if_icmp .gt 8, 3) := by decide +kernel
theorem dX5_planOneMore_90 : decode cX5_planOneMore 90 = .ok (.iload 4, 2) := by decide +kernel
theorem dX5_planOneMore_92 : decode cX5_planOneMore 92 = .ok (.goto 4, 3) := by decide +kernel
theorem dX5_planOneMore_95 : decode cX5_planOneMore 95 = .ok (.iload_n 1, 1) := by decide +kernel
theorem dX5_planOneMore_96 : decode cX5_planOneMore 96 = .ok (.ireturn, 1) := by decide +kernel
theorem dX6_init_0 : decode cX6_init 0 = .ok (.aload_n 0, 1) := by decide +kernel
theorem dX6_init_1 : decode cX6_init 1 = .ok (.invokespecial 1, 3) := by decide +kernel
theorem dX6_init_4 : decode cX6_init 4 = .ok (.aload_n 0, 1) := by decide +kernel
theorem dX6_init_5 : decode cX6_init 5 = .ok (.bipush 20, 2) := by decide +kernel
theorem dX6_init_7 : decode cX6_init 7 = .ok (.putfield 7, 3) := by decide +kernel
theorem dX6_init_10 : decode cX6_init 10 = .ok (.aload_n 0, 1) := by decide +kernel
theorem dX6_init_11 : decode cX6_init 11 = .ok (.bipush 84, 2) := by decide +kernel
theorem dX6_init_13 : decode cX6_init 13 = .ok (.newarray .int, 2) := by decide +kernel
theorem dX6_init_15 : decode cX6_init 15 = .ok (.putfield 13, 3) := by decide +kernel
theorem dX6_init_18 : decode cX6_init 18 = .ok (.aload_n 0, 1) := by decide +kernel
theorem dX6_init_19 : decode cX6_init 19 = .ok (.bipush 40, 2) := by decide +kernel
theorem dX6_init_21 : decode cX6_init 21 = .ok (.newarray .int, 2) := by decide +kernel
theorem dX6_init_23 : decode cX6_init 23 = .ok (.putfield 17, 3) := by decide +kernel
theorem dX6_init_26 : decode cX6_init 26 = .ok (.aload_n 0, 1) := by decide +kernel
theorem dX6_init_27 : decode cX6_init 27 = .ok (.bipush 100, 2) := by decide +kernel
theorem dX6_init_29 : decode cX6_init 29 = .ok (.newarray .int, 2) := by decide +kernel
theorem dX6_init_31 : decode cX6_init 31 = .ok (.putfield 20, 3) := by decide +kernel
theorem dX6_init_34 : decode cX6_init 34 = .ok (.aload_n 0, 1) := by decide +kernel
theorem dX6_init_35 : decode cX6_init 35 = .ok (.iconst 5, 1) := by decide +kernel
theorem dX6_init_36 : decode cX6_init 36 = .ok (.newarray .int, 2) := by decide +kernel
theorem dX6_init_38 : decode cX6_init 38 = .ok (.putfield 23, 3) := by decide +kernel
theorem dX6_init_41 : decode cX6_init 41 = .ok (.aload_n 0, 1) := by decide +kernel
theorem dX6_init_42 : decode cX6_init 42 = .ok (.bipush 20, 2) := by decide +kernel
theorem dX6_init_44 : decode cX6_init 44 = .ok (.newarray .boolean, 2) := by decide +kernel
theorem dX6_init_46 : decode cX6_init 46 = .ok (.putfield 26, 3) := by decide +kernel
theorem dX6_init_49 : decode cX6_init 49 = .ok (.return_, 1) := by decide +kernel
theorem dX6_thrown_0 : decode cX6_thrown 0 = .ok (.aload_n 0, 1) := by decide +kernel
theorem dX6_thrown_1 : decode cX6_thrown 1 = .ok (.getfield 30, 3) := by decide +kernel
theorem dX6_thrown_4 : decode cX6_thrown 4 = .ok (.ireturn, 1) := by decide +kernel
theorem dX6_fail_0 : decode cX6_fail 0 = .ok (.aload_n 0, 1) := by decide +kernel
theorem dX6_fail_1 : decode cX6_fail 1 = .ok (.iload_n 1, 1) := by decide +kernel
theorem dX6_fail_2 : decode cX6_fail 2 = .ok (.putfield 30, 3) := by decide +kernel
theorem dX6_fail_5 : decode cX6_fail 5 = .ok (.iconst 0, 1) := by decide +kernel
theorem dX6_fail_6 : decode cX6_fail 6 = .ok (.ireturn, 1) := by decide +kernel
theorem dX6_isIn_0 : decode cX6_isIn 0 = .ok (.iload_n 0, 1) := by decide +kernel
theorem dX6_isIn_1 : decode cX6_isIn 1 = .ok (.iload_n 1, 1) := by decide +kernel
theorem dX6_isIn_2 : decode cX6_isIn 2 = .ok (.if_icmp .lt 12, 3) := by decide +kernel
theorem dX6_isIn_5 : decode cX6_isIn 5 = .ok (.iload_n 0, 1) := by decide +kernel
theorem dX6_isIn_6 : decode cX6_isIn 6 = .ok (.iload_n 2, 1) := by decide +kernel
theorem dX6_isIn_7 : decode cX6_isIn 7 = .ok (.if_icmp .gt 7, 3) := by decide +kernel
theorem dX6_isIn_10 : decode cX6_isIn 10 = .ok (.iconst 1, 1) := by decide +kernel
theorem dX6_isIn_11 : decode cX6_isIn 11 = .ok (.goto 4, 3) := by decide +kernel
theorem dX6_isIn_14 : decode cX6_isIn 14 = .ok (.iconst 0, 1) := by decide +kernel
theorem dX6_isIn_15 : decode cX6_isIn 15 = .ok (.ireturn, 1) := by decide +kernel
theorem dX6_isFrame_0 : decode cX6_isFrame 0 = .ok (.iload_n 1, 1) := by decide +kernel
theorem dX6_isFrame_1 : decode cX6_isFrame 1 = .ok (.iconst 0, 1) := by decide +kernel
theorem dX6_isFrame_2 : decode cX6_isFrame 2 = .ok (.aload_n 0, 1) := by decide +kernel
theorem dX6_isFrame_3 : decode cX6_isFrame 3 = .ok (.getfield 33, 3) := by decide +kernel
theorem dX6_isFrame_6 : decode cX6_isFrame 6 = .ok (.iconst 1, 1) := by decide +kernel
theorem dX6_isFrame_7 : decode cX6_isFrame 7 = .ok (.isub, 1) := by decide +kernel
theorem dX6_isFrame_8 : decode cX6_isFrame 8 = .ok (.invokestatic 36, 3) := by decide +kernel
theorem dX6_isFrame_11 : decode cX6_isFrame 11 = .ok (.ireturn, 1) := by decide +kernel
theorem dX6_fr_0 : decode cX6_fr 0 = .ok (.aload_n 0, 1) := by decide +kernel
theorem dX6_fr_1 : decode cX6_fr 1 = .ok (.getfield 13, 3) := by decide +kernel
theorem dX6_fr_4 : decode cX6_fr 4 = .ok (.bipush 7, 2) := by decide +kernel
theorem dX6_fr_6 : decode cX6_fr 6 = .ok (.iload_n 1, 1) := by decide +kernel
theorem dX6_fr_7 : decode cX6_fr 7 = .ok (.imul, 1) := by decide +kernel
theorem dX6_fr_8 : decode cX6_fr 8 = .ok (.iload_n 2, 1) := by decide +kernel
theorem dX6_fr_9 : decode cX6_fr 9 = .ok (.iadd, 1) := by decide +kernel
theorem dX6_fr_10 : decode cX6_fr 10 = .ok (.iaload, 1) := by decide +kernel
theorem dX6_fr_11 : decode cX6_fr 11 = .ok (.ireturn, 1) := by decide +kernel
theorem dX6_set_0 : decode cX6_set 0 = .ok (.aload_n 0, 1) := by decide +kernel
theorem dX6_set_1 : decode cX6_set 1 = .ok (.getfield 13, 3) := by decide +kernel
theorem dX6_set_4 : decode cX6_set 4 = .ok (.bipush 7, 2) := by decide +kernel
theorem dX6_set_6 : decode cX6_set 6 = .ok (.iload_n 1, 1) := by decide +kernel
theorem dX6_set_7 : decode cX6_set 7 = .ok (.imul, 1) := by decide +kernel
theorem dX6_set_8 : decode cX6_set 8 = .ok (.iload_n 2, 1) := by decide +kernel
theorem dX6_set_9 : decode cX6_set 9 = .ok (.iadd, 1) := by decide +kernel
theorem dX6_set_10 : decode cX6_set 10 = .ok (.iload_n 3, 1) := by decide +kernel
theorem dX6_set_11 : decode cX6_set 11 = .ok (.iastore, 1) := by decide +kernel
theorem dX6_set_12 : decode cX6_set 12 = .ok (.return_, 1) := by decide +kernel
theorem dX6_or_0 : decode cX6_or 0 = .ok (.aload_n 0, 1) := by decide +kernel
theorem dX6_or_1 : decode cX6_or 1 = .ok (.getfield 20, 3) := by decide +kernel
theorem dX6_or_4 : decode cX6_or 4 = .ok (.iconst 5, 1) := by decide +kernel
theorem dX6_or_5 : decode cX6_or 5 = .ok (.iload_n 1, 1) := by decide +kernel
theorem dX6_or_6 : decode cX6_or 6 = .ok (.imul, 1) := by decide +kernel
theorem dX6_or_7 : decode cX6_or 7 = .ok (.iload_n 2, 1) := by decide +kernel
theorem dX6_or_8 : decode cX6_or 8 = .ok (.iadd, 1) := by decide +kernel
theorem dX6_or_9 : decode cX6_or 9 = .ok (.iaload, 1) := by decide +kernel
theorem dX6_or_10 : decode cX6_or 10 = .ok (.ireturn, 1) := by decide +kernel
theorem dX6_melt_0 : decode cX6_melt 0 = .ok (.aload_n 0, 1) := by decide +kernel
theorem dX6_melt_1 : decode cX6_melt 1 = .ok (.iconst 0, 1) := by decide +kernel
theorem dX6_melt_2 : decode cX6_melt 2 = .ok (.putfield 30, 3) := by decide +kernel
theorem dX6_melt_5 : decode cX6_melt 5 = .ok (.iload_n 1, 1) := by decide +kernel
theorem dX6_melt_6 : decode cX6_melt 6 = .ok (.iconst 1, 1) := by decide +kernel
theorem dX6_melt_7 : decode cX6_melt 7 = .ok (.sipush 5000, 3) := by decide +kernel
theorem dX6_melt_10 : decode cX6_melt 10 = .ok (.invokestatic 36, 3) := by decide +kernel
theorem dX6_melt_13 : decode cX6_melt 13 = .ok (.ifCond .ne 9, 3) := by decide +kernel
theorem dX6_melt_16 : decode cX6_melt 16 = .ok (.aload_n 0, 1) := by decide +kernel
theorem dX6_melt_17 : decode cX6_melt 17 = .ok (.iconst 1, 1) := by decide +kernel
theorem dX6_melt_18 : decode cX6_melt 18 = .ok (.invokevirtual 40, 3) := by decide +kernel
theorem dX6_melt_21 : decode cX6_melt 21 = .ok (.ireturn, 1) := by decide +kernel
theorem dX6_melt_22 : decode cX6_melt 22 = .ok (.aload_n 0, 1) := by decide +kernel
theorem dX6_melt_23 : decode cX6_melt 23 = .ok (.getfield 44, 3) := by decide +kernel
theorem dX6_melt_26 : decode cX6_melt 26 = .ok (.iload_n 1, 1) := by decide +kernel
theorem dX6_melt_27 : decode cX6_melt 27 = .ok (.iadd, 1) := by decide +kernel
theorem dX6_melt_28 : decode cX6_melt 28 = .ok (.sipush 20000, 3) := by decide +kernel
theorem dX6_melt_31 : decode cX6_melt 31 = .ok (.if_icmp .le 9, 3) := by decide +kernel
theorem dX6_melt_34 : decode cX6_melt 34 = .ok (.aload_n 0, 1) := by decide +kernel
theorem dX6_melt_35 : decode cX6_melt 35 = .ok (.iconst 2, 1) := by decide +kernel
theorem dX6_melt_36 : decode cX6_melt 36 = .ok (.invokevirtual 40, 3) := by decide +kernel
theorem dX6_melt_39 : decode cX6_melt 39 = .ok (.ireturn, 1) := by decide +kernel
theorem dX6_melt_40 : decode cX6_melt 40 = .ok (.aload_n 0, 1) := by decide +kernel
theorem dX6_melt_41 : decode cX6_melt 41 = .ok (.aload_n 0, 1) := by decide +kernel
theorem dX6_melt_42 : decode cX6_melt 42 = .ok (.getfield 7, 3) := by decide +kernel
theorem dX6_melt_45 : decode cX6_melt 45 = .ok (.aload_n 0, 1) := by decide +kernel
theorem dX6_melt_46 : decode cX6_melt 46 = .ok (.getfield 44, 3) := by decide +kernel
theorem dX6_melt_49 : decode cX6_melt 49 = .ok (.imul, 1) := by decide +kernel
theorem dX6_melt_50 : decode cX6_melt 50 = .ok (.bipush 20, 2) := by decide +kernel
theorem dX6_melt_52 : decode cX6_melt 52 = .ok (.iload_n 1, 1) := by decide +kernel
theorem dX6_melt_53 : decode cX6_melt 53 = .ok (.imul, 1) := by decide +kernel
theorem dX6_melt_54 : decode cX6_melt 54 = .ok (.iadd, 1) := by decide +kernel
theorem dX6_melt_55 : decode cX6_melt 55 = .ok (.aload_n 0, 1) := by decide +kernel
theorem dX6_melt_56 : decode cX6_melt 56 = .ok (.getfield 44, 3) := by decide +kernel
theorem dX6_melt_59 : decode cX6_melt 59 = .ok (.iload_n 1, 1) := by decide +kernel
theorem dX6_melt_60 : decode cX6_melt 60 = .ok (.iadd, 1) := by decide +kernel
theorem dX6_melt_61 : decode cX6_melt 61 = .ok (.idiv, 1) := by decide +kernel
theorem dX6_melt_62 : decode cX6_melt 62 = .ok (.putfield 7, 3) := by decide +kernel
theorem dX6_melt_65 : decode cX6_melt 65 = .ok (.aload_n 0, 1) := by decide +kernel
theorem dX6_melt_66 : decode cX6_melt 66 = .ok (.dup, 1) := by decide +kernel
theorem dX6_melt_67 : decode cX6_melt 67 = .ok (.getfield 44, 3) := by decide +kernel
theorem dX6_melt_70 : decode cX6_melt 70 = .ok (.iload_n 1, 1) := by decide +kernel
theorem dX6_melt_71 : decode cX6_melt 71 = .ok (.iadd, 1) := by decide +kernel
theorem dX6_melt_72 : decode cX6_melt 72 = .ok (.putfield 44, 3) := by decide +kernel
theorem dX6_melt_75 : decode cX6_melt 75 = .ok (.aload_n 0, 1) := by decide +kernel
theorem dX6_melt_76 : decode cX6_melt 76 = .ok (.getfield 7, 3) := by decide +kernel
theorem dX6_melt_79 : decode cX6_melt 79 = .ok (.ireturn, 1) := by decide +kernel
theorem dX6_setFire_0 : decode cX6_setFire 0 = .ok (.aload_n 0, 1) := by decide +kernel
theorem dX6_setFire_1 : decode cX6_setFire 1 = .ok (.iconst 0, 1) := by decide +kernel
theorem dX6_setFire_2 : decode cX6_setFire 2 = .ok (.putfield 30, 3) := by decide +kernel
theorem dX6_setFire_5 : decode cX6_setFire 5 = .ok (.iload_n 1, 1) := by decide +kernel
theorem dX6_setFire_6 : decode cX6_setFire 6 = .ok (.iconst 0, 1) := by decide +kernel
theorem dX6_setFire_7 : decode cX6_setFire 7 = .ok (.iconst 5, 1) := by decide +kernel
theorem dX6_setFire_8 : decode cX6_setFire 8 = .ok (.invokestatic 36, 3) := by decide +kernel
theorem dX6_setFire_11 : decode cX6_setFire 11 = .ok (.ifCond .ne 9, 3) := by decide +kernel
theorem dX6_setFire_14 : decode cX6_setFire 14 = .ok (.aload_n 0, 1) := by decide +kernel
theorem dX6_setFire_15 : decode cX6_setFire 15 = .ok (.iconst 1, 1) := by decide +kernel
theorem dX6_setFire_16 : decode cX6_setFire 16 = .ok (.invokevirtual 40, 3) := by decide +kernel
theorem dX6_setFire_19 : decode cX6_setFire 19 = .ok (.ireturn, 1) := by decide +kernel
theorem dX6_setFire_20 : decode cX6_setFire 20 = .ok (.aload_n 0, 1) := by decide +kernel
theorem dX6_setFire_21 : decode cX6_setFire 21 = .ok (.getfield 47, 3) := by decide +kernel
theorem dX6_setFire_24 : decode cX6_setFire 24 = .ok (.istore_n 2, 1) := by decide +kernel
theorem dX6_setFire_25 : decode cX6_setFire 25 = .ok (.aload_n 0, 1) := by decide +kernel
theorem dX6_setFire_26 : decode cX6_setFire 26 = .ok (.iload_n 1, 1) := by decide +kernel
theorem dX6_setFire_27 : decode cX6_setFire 27 = .ok (.putfield 47, 3) := by decide +kernel
theorem dX6_setFire_30 : decode cX6_setFire 30 = .ok (.iload_n 2, 1) := by decide +kernel
theorem dX6_setFire_31 : decode cX6_setFire 31 = .ok (.ireturn, 1) := by decide +kernel
theorem dX6_vatTold_0 : decode cX6_vatTold 0 = .ok (.iload_n 1, 1) := by decide +kernel
theorem dX6_vatTold_1 : decode cX6_vatTold 1 = .ok (.ifCond .ne 10, 3) := by decide +kernel
theorem dX6_vatTold_4 : decode cX6_vatTold 4 = .ok (.aload_n 0, 1) := by decide +kernel
theorem dX6_vatTold_5 : decode cX6_vatTold 5 = .ok (.getfield 44, 3) := by decide +kernel
theorem dX6_vatTold_8 : decode cX6_vatTold 8 = .ok (.goto 41, 3) := by decide +kernel
theorem dX6_vatTold_11 : decode cX6_vatTold 11 = .ok (.iload_n 1, 1) := by decide +kernel
theorem dX6_vatTold_12 : decode cX6_vatTold 12 = .ok (.iconst 1, 1) := by decide +kernel
theorem dX6_vatTold_13 : decode cX6_vatTold 13 = .ok (.if_icmp .ne 10, 3) := by decide +kernel
theorem dX6_vatTold_16 : decode cX6_vatTold 16 = .ok (.aload_n 0, 1) := by decide +kernel
theorem dX6_vatTold_17 : decode cX6_vatTold 17 = .ok (.getfield 7, 3) := by decide +kernel
theorem dX6_vatTold_20 : decode cX6_vatTold 20 = .ok (.goto 29, 3) := by decide +kernel
theorem dX6_vatTold_23 : decode cX6_vatTold 23 = .ok (.iload_n 1, 1) := by decide +kernel
theorem dX6_vatTold_24 : decode cX6_vatTold 24 = .ok (.iconst 2, 1) := by decide +kernel
theorem dX6_vatTold_25 : decode cX6_vatTold 25 = .ok (.if_icmp .ne 10, 3) := by decide +kernel
theorem dX6_vatTold_28 : decode cX6_vatTold 28 = .ok (.aload_n 0, 1) := by decide +kernel
theorem dX6_vatTold_29 : decode cX6_vatTold 29 = .ok (.getfield 47, 3) := by decide +kernel
theorem dX6_vatTold_32 : decode cX6_vatTold 32 = .ok (.goto 17, 3) := by decide +kernel
theorem dX6_vatTold_35 : decode cX6_vatTold 35 = .ok (.aload_n 0, 1) := by decide +kernel
theorem dX6_vatTold_36 : decode cX6_vatTold 36 = .ok (.getfield 7, 3) := by decide +kernel
theorem dX6_vatTold_39 : decode cX6_vatTold 39 = .ok (.bipush 60, 2) := by decide +kernel
theorem dX6_vatTold_41 : decode cX6_vatTold 41 = .ok (.if_icmp .lt 7, 3) := by decide +kernel
theorem dX6_vatTold_44 : decode cX6_vatTold 44 = .ok (.iconst 1, 1) := by decide +kernel
theorem dX6_vatTold_45 : decode cX6_vatTold 45 = .ok (.goto 4, 3) := by decide +kernel
theorem dX6_vatTold_48 : decode cX6_vatTold 48 = .ok (.iconst 0, 1) := by decide +kernel
theorem dX6_vatTold_49 : decode cX6_vatTold 49 = .ok (.ireturn, 1) := by decide +kernel
theorem dX6_vat_0 : decode cX6_vat 0 = .ok (.aload_n 0, 1) := by decide +kernel
theorem dX6_vat_1 : decode cX6_vat 1 = .ok (.iconst 0, 1) := by decide +kernel
theorem dX6_vat_2 : decode cX6_vat 2 = .ok (.putfield 30, 3) := by decide +kernel
theorem dX6_vat_5 : decode cX6_vat 5 = .ok (.iload_n 1, 1) := by decide +kernel
theorem dX6_vat_6 : decode cX6_vat 6 = .ok (.iconst 0, 1) := by decide +kernel
theorem dX6_vat_7 : decode cX6_vat 7 = .ok (.iconst 3, 1) := by decide +kernel
theorem dX6_vat_8 : decode cX6_vat 8 = .ok (.invokestatic 36, 3) := by decide +kernel
theorem dX6_vat_11 : decode cX6_vat 11 = .ok (.ifCond .eq 11, 3) := by decide +kernel
theorem dX6_vat_14 : decode cX6_vat 14 = .ok (.aload_n 0, 1) := by decide +kernel
theorem dX6_vat_15 : decode cX6_vat 15 = .ok (.iload_n 1, 1) := by decide +kernel
theorem dX6_vat_16 : decode cX6_vat 16 = .ok (.invokevirtual 50, 3) := by decide +kernel
theorem dX6_vat_19 : decode cX6_vat 19 = .ok (.goto 8, 3) := by decide +kernel
theorem dX6_vat_22 : decode cX6_vat 22 = .ok (.aload_n 0, 1) := by decide +kernel
theorem dX6_vat_23 : decode cX6_vat 23 = .ok (.iconst 1, 1) := by decide +kernel
theorem dX6_vat_24 : decode cX6_vat 24 = .ok (.invokevirtual 40, 3) := by decide +kernel
theorem dX6_vat_27 : decode cX6_vat 27 = .ok (.ireturn, 1) := by decide +kernel
theorem dX6_addFrame_0 : decode cX6_addFrame 0 = .ok (.aload_n 0, 1) := by decide +kernel
theorem dX6_addFrame_1 : decode cX6_addFrame 1 = .ok (.iconst 0, 1) := by decide +kernel
theorem dX6_addFrame_2 : decode cX6_addFrame 2 = .ok (.putfield 30, 3) := by decide +kernel
theorem dX6_addFrame_5 : decode cX6_addFrame 5 = .ok (.iload_n 1, 1) := by decide +kernel
theorem dX6_addFrame_6 : decode cX6_addFrame 6 = .ok (.iconst 0, 1) := by decide +kernel
theorem dX6_addFrame_7 : decode cX6_addFrame 7 = .ok (.iconst 3, 1) := by decide +kernel
theorem dX6_addFrame_8 : decode cX6_addFrame 8 = .ok (.invokestatic 36, 3) := by decide +kernel
theorem dX6_addFrame_11 : decode cX6_addFrame 11 = .ok (.ifCond .eq 13, 3) := by decide +kernel
theorem dX6_addFrame_14 : decode cX6_addFrame 14 = .ok (.iload_n 2, 1) := by decide +kernel
theorem dX6_addFrame_15 : decode cX6_addFrame 15 = .ok (.iconst 1, 1) := by decide +kernel
theorem dX6_addFrame_16 : decode cX6_addFrame 16 = .ok (.bipush 20, 2) := by decide +kernel
theorem dX6_addFrame_18 : decode cX6_addFrame 18 = .ok (.invokestatic 36, 3) := by decide +kernel
theorem dX6_addFrame_21 : decode cX6_addFrame 21 = .ok (.ifCond .ne 9, 3) := by decide +kernel
theorem dX6_addFrame_24 : decode cX6_addFrame 24 = .ok (.aload_n 0, 1) := by decide +kernel
theorem dX6_addFrame_25 : decode cX6_addFrame 25 = .ok (.iconst 1, 1) := by decide +kernel
theorem dX6_addFrame_26 : decode cX6_addFrame 26 = .ok (.invokevirtual 40, 3) := by decide +kernel
theorem dX6_addFrame_29 : decode cX6_addFrame 29 = .ok (.ireturn, 1) := by decide +kernel
theorem dX6_addFrame_30 : decode cX6_addFrame 30 = .ok (.aload_n 0, 1) := by decide +kernel
theorem dX6_addFrame_31 : decode cX6_addFrame 31 = .ok (.getfield 33, 3) := by decide +kernel
theorem dX6_addFrame_34 : decode cX6_addFrame 34 = .ok (.bipush 12, 2) := by decide +kernel
theorem dX6_addFrame_36 : decode cX6_addFrame 36 = .ok (.if_icmp .ne 9, 3) := by decide +kernel
theorem dX6_addFrame_39 : decode cX6_addFrame 39 = .ok (.aload_n 0, 1) := by decide +kernel
theorem dX6_addFrame_40 : decode cX6_addFrame 40 = .ok (.iconst 2, 1) := by decide +kernel
theorem dX6_addFrame_41 : decode cX6_addFrame 41 = .ok (.invokevirtual 40, 3) := by decide +kernel
theorem dX6_addFrame_44 : decode cX6_addFrame 44 = .ok (.ireturn, 1) := by decide +kernel
theorem dX6_addFrame_45 : decode cX6_addFrame 45 = .ok (.bipush 7, 2) := by decide +kernel
theorem dX6_addFrame_47 : decode cX6_addFrame 47 = .ok (.newarray .int, 2) := by decide +kernel
theorem dX6_addFrame_49 : decode cX6_addFrame 49 = .ok (.dup, 1) := by decide +kernel
theorem dX6_addFrame_50 : decode cX6_addFrame 50 = .ok (.iconst 0, 1) := by decide +kernel
theorem dX6_addFrame_51 : decode cX6_addFrame 51 = .ok (.iload_n 1, 1) := by decide +kernel
theorem dX6_addFrame_52 : decode cX6_addFrame 52 = .ok (.iastore, 1) := by decide +kernel
theorem dX6_addFrame_53 : decode cX6_addFrame 53 = .ok (.dup, 1) := by decide +kernel
theorem dX6_addFrame_54 : decode cX6_addFrame 54 = .ok (.iconst 1, 1) := by decide +kernel
theorem dX6_addFrame_55 : decode cX6_addFrame 55 = .ok (.iload_n 2, 1) := by decide +kernel
theorem dX6_addFrame_56 : decode cX6_addFrame 56 = .ok (.iastore, 1) := by decide +kernel
theorem dX6_addFrame_57 : decode cX6_addFrame 57 = .ok (.dup, 1) := by decide +kernel
theorem dX6_addFrame_58 : decode cX6_addFrame 58 = .ok (.iconst 2, 1) := by decide +kernel
theorem dX6_addFrame_59 : decode cX6_addFrame 59 = .ok (.iconst 0, 1) := by decide +kernel
theorem dX6_addFrame_60 : decode cX6_addFrame 60 = .ok (.iastore, 1) := by decide +kernel
theorem dX6_addFrame_61 : decode cX6_addFrame 61 = .ok (.dup, 1) := by decide +kernel
theorem dX6_addFrame_62 : decode cX6_addFrame 62 = .ok (.iconst 3, 1) := by decide +kernel
theorem dX6_addFrame_63 : decode cX6_addFrame 63 = .ok (.iconst 0, 1) := by decide +kernel
theorem dX6_addFrame_64 : decode cX6_addFrame 64 = .ok (.iastore, 1) := by decide +kernel
theorem dX6_addFrame_65 : decode cX6_addFrame 65 = .ok (.dup, 1) := by decide +kernel
theorem dX6_addFrame_66 : decode cX6_addFrame 66 = .ok (.iconst 4, 1) := by decide +kernel
theorem dX6_addFrame_67 : decode cX6_addFrame 67 = .ok (.iconst 0, 1) := by decide +kernel
theorem dX6_addFrame_68 : decode cX6_addFrame 68 = .ok (.iastore, 1) := by decide +kernel
theorem dX6_addFrame_69 : decode cX6_addFrame 69 = .ok (.dup, 1) := by decide +kernel
theorem dX6_addFrame_70 : decode cX6_addFrame 70 = .ok (.iconst 5, 1) := by decide +kernel
theorem dX6_addFrame_71 : decode cX6_addFrame 71 = .ok (.iconst (-1), 1) := by decide +kernel
theorem dX6_addFrame_72 : decode cX6_addFrame 72 = .ok (.iastore, 1) := by decide +kernel
theorem dX6_addFrame_73 : decode cX6_addFrame 73 = .ok (.dup, 1) := by decide +kernel
theorem dX6_addFrame_74 : decode cX6_addFrame 74 = .ok (.bipush 6, 2) := by decide +kernel
theorem dX6_addFrame_76 : decode cX6_addFrame 76 = .ok (.iconst 0, 1) := by decide +kernel
theorem dX6_addFrame_77 : decode cX6_addFrame 77 = .ok (.iastore, 1) := by decide +kernel
theorem dX6_addFrame_78 : decode cX6_addFrame 78 = .ok (.astore_n 3, 1) := by decide +kernel
theorem dX6_addFrame_79 : decode cX6_addFrame 79 = .ok (.aload_n 3, 1) := by decide +kernel
theorem dX6_addFrame_80 : decode cX6_addFrame 80 = .ok (.iconst 0, 1) := by decide +kernel
theorem dX6_addFrame_81 : decode cX6_addFrame 81 = .ok (.aload_n 0, 1) := by decide +kernel
theorem dX6_addFrame_82 : decode cX6_addFrame 82 = .ok (.getfield 13, 3) := by decide +kernel
theorem dX6_addFrame_85 : decode cX6_addFrame 85 = .ok (.bipush 7, 2) := by decide +kernel
theorem dX6_addFrame_87 : decode cX6_addFrame 87 = .ok (.aload_n 0, 1) := by decide +kernel
theorem dX6_addFrame_88 : decode cX6_addFrame 88 = .ok (.getfield 33, 3) := by decide +kernel
theorem dX6_addFrame_91 : decode cX6_addFrame 91 = .ok (.imul, 1) := by decide +kernel
theorem dX6_addFrame_92 : decode cX6_addFrame 92 = .ok (.bipush 7, 2) := by decide +kernel
theorem dX6_addFrame_94 : decode cX6_addFrame 94 = .ok (.invokestatic 53, 3) := by decide +kernel
theorem dX6_addFrame_97 : decode cX6_addFrame 97 = .ok (.aload_n 0, 1) := by decide +kernel
theorem dX6_addFrame_98 : decode cX6_addFrame 98 = .ok (.dup, 1) := by decide +kernel
theorem dX6_addFrame_99 : decode cX6_addFrame 99 = .ok (.getfield 33, 3) := by decide +kernel
theorem dX6_addFrame_102 : decode cX6_addFrame 102 = .ok (.iconst 1, 1) := by decide +kernel
theorem dX6_addFrame_103 : decode cX6_addFrame 103 = .ok (.iadd, 1) := by decide +kernel
theorem dX6_addFrame_104 : decode cX6_addFrame 104 = .ok (.putfield 33, 3) := by decide +kernel
theorem dX6_addFrame_107 : decode cX6_addFrame 107 = .ok (.aload_n 0, 1) := by decide +kernel
theorem dX6_addFrame_108 : decode cX6_addFrame 108 = .ok (.getfield 33, 3) := by decide +kernel
theorem dX6_addFrame_111 : decode cX6_addFrame 111 = .ok (.iconst 1, 1) := by decide +kernel
theorem dX6_addFrame_112 : decode cX6_addFrame 112 = .ok (.isub, 1) := by decide +kernel
theorem dX6_addFrame_113 : decode cX6_addFrame 113 = .ok (.ireturn, 1) := by decide +kernel
theorem dX6_at_0 : decode cX6_at 0 = .ok (.iconst 0, 1) := by decide +kernel
theorem dX6_at_1 : decode cX6_at 1 = .ok (.istore_n 2, 1) := by decide +kernel
theorem dX6_at_2 : decode cX6_at 2 = .ok (.iload_n 2, 1) := by decide +kernel
theorem dX6_at_3 : decode cX6_at 3 = .ok (.aload_n 0, 1) := by decide +kernel
theorem dX6_at_4 : decode cX6_at 4 = .ok (.getfield 33, 3) := by decide +kernel
theorem dX6_at_7 : decode cX6_at 7 = .ok (.if_icmp .ge 21, 3) := by decide +kernel
theorem dX6_at_10 : decode cX6_at 10 = .ok (.aload_n 0, 1) := by decide +kernel
theorem dX6_at_11 : decode cX6_at 11 = .ok (.iload_n 2, 1) := by decide +kernel
theorem dX6_at_12 : decode cX6_at 12 = .ok (.iconst 5, 1) := by decide +kernel
theorem dX6_at_13 : decode cX6_at 13 = .ok (.invokevirtual 59, 3) := by decide +kernel
theorem dX6_at_16 : decode cX6_at 16 = .ok (.iload_n 1, 1) := by decide +kernel
theorem dX6_at_17 : decode cX6_at 17 = .ok (.if_icmp .ne 5, 3) := by decide +kernel
theorem dX6_at_20 : decode cX6_at 20 = .ok (.iload_n 2, 1) := by decide +kernel
theorem dX6_at_21 : decode cX6_at 21 = .ok (.ireturn, 1) := by decide +kernel
theorem dX6_at_22 : decode cX6_at 22 = .ok (.iinc 2 1, 3) := by decide +kernel
theorem dX6_at_25 : decode cX6_at 25 = .ok (.goto (-23), 3) := by decide +kernel
theorem dX6_at_28 : decode cX6_at 28 = .ok (.iconst (-1), 1) := by decide +kernel
theorem dX6_at_29 : decode cX6_at 29 = .ok (.ireturn, 1) := by decide +kernel
theorem dX6_hang_0 : decode cX6_hang 0 = .ok (.aload_n 0, 1) := by decide +kernel
theorem dX6_hang_1 : decode cX6_hang 1 = .ok (.iconst 0, 1) := by decide +kernel
theorem dX6_hang_2 : decode cX6_hang 2 = .ok (.putfield 30, 3) := by decide +kernel
theorem dX6_hang_5 : decode cX6_hang 5 = .ok (.aload_n 0, 1) := by decide +kernel
theorem dX6_hang_6 : decode cX6_hang 6 = .ok (.iload_n 1, 1) := by decide +kernel
theorem dX6_hang_7 : decode cX6_hang 7 = .ok (.invokevirtual 63, 3) := by decide +kernel
theorem dX6_hang_10 : decode cX6_hang 10 = .ok (.ifCond .ne 9, 3) := by decide +kernel
theorem dX6_hang_13 : decode cX6_hang 13 = .ok (.aload_n 0, 1) := by decide +kernel
theorem dX6_hang_14 : decode cX6_hang 14 = .ok (.iconst 1, 1) := by decide +kernel
theorem dX6_hang_15 : decode cX6_hang 15 = .ok (.invokevirtual 40, 3) := by decide +kernel
theorem dX6_hang_18 : decode cX6_hang 18 = .ok (.ireturn, 1) := by decide +kernel
theorem dX6_hang_19 : decode cX6_hang 19 = .ok (.iload_n 2, 1) := by decide +kernel
theorem dX6_hang_20 : decode cX6_hang 20 = .ok (.iconst 0, 1) := by decide +kernel
theorem dX6_hang_21 : decode cX6_hang 21 = .ok (.bipush 11, 2) := by decide +kernel
theorem dX6_hang_23 : decode cX6_hang 23 = .ok (.invokestatic 36, 3) := by decide +kernel
theorem dX6_hang_26 : decode cX6_hang 26 = .ok (.ifCond .ne 9, 3) := by decide +kernel
theorem dX6_hang_29 : decode cX6_hang 29 = .ok (.aload_n 0, 1) := by decide +kernel
theorem dX6_hang_30 : decode cX6_hang 30 = .ok (.iconst 2, 1) := by decide +kernel
theorem dX6_hang_31 : decode cX6_hang 31 = .ok (.invokevirtual 40, 3) := by decide +kernel
theorem dX6_hang_34 : decode cX6_hang 34 = .ok (.ireturn, 1) := by decide +kernel
theorem dX6_hang_35 : decode cX6_hang 35 = .ok (.aload_n 0, 1) := by decide +kernel
theorem dX6_hang_36 : decode cX6_hang 36 = .ok (.iload_n 2, 1) := by decide +kernel
theorem dX6_hang_37 : decode cX6_hang 37 = .ok (.invokevirtual 67, 3) := by decide +kernel
theorem dX6_hang_40 : decode cX6_hang 40 = .ok (.iconst (-1), 1) := by decide +kernel
theorem dX6_hang_41 : decode cX6_hang 41 = .ok (.if_icmp .eq 18, 3) := by decide +kernel
theorem dX6_hang_44 : decode cX6_hang 44 = .ok (.aload_n 0, 1) := by decide +kernel
theorem dX6_hang_45 : decode cX6_hang 45 = .ok (.iload_n 2, 1) := by decide +kernel
theorem dX6_hang_46 : decode cX6_hang 46 = .ok (.invokevirtual 67, 3) := by decide +kernel
theorem dX6_hang_49 : decode cX6_hang 49 = .ok (.iload_n 1, 1) := by decide +kernel
theorem dX6_hang_50 : decode cX6_hang 50 = .ok (.if_icmp .eq 9, 3) := by decide +kernel
theorem dX6_hang_53 : decode cX6_hang 53 = .ok (.aload_n 0, 1) := by decide +kernel
theorem dX6_hang_54 : decode cX6_hang 54 = .ok (.iconst 3, 1) := by decide +kernel
theorem dX6_hang_55 : decode cX6_hang 55 = .ok (.invokevirtual 40, 3) := by decide +kernel
theorem dX6_hang_58 : decode cX6_hang 58 = .ok (.ireturn, 1) := by decide +kernel
theorem dX6_hang_59 : decode cX6_hang 59 = .ok (.aload_n 0, 1) := by decide +kernel
theorem dX6_hang_60 : decode cX6_hang 60 = .ok (.iload_n 1, 1) := by decide +kernel
theorem dX6_hang_61 : decode cX6_hang 61 = .ok (.iconst 5, 1) := by decide +kernel
theorem dX6_hang_62 : decode cX6_hang 62 = .ok (.invokevirtual 59, 3) := by decide +kernel
theorem dX6_hang_65 : decode cX6_hang 65 = .ok (.istore_n 3, 1) := by decide +kernel
theorem dX6_hang_66 : decode cX6_hang 66 = .ok (.aload_n 0, 1) := by decide +kernel
theorem dX6_hang_67 : decode cX6_hang 67 = .ok (.iload_n 1, 1) := by decide +kernel
theorem dX6_hang_68 : decode cX6_hang 68 = .ok (.iconst 5, 1) := by decide +kernel
theorem dX6_hang_69 : decode cX6_hang 69 = .ok (.iload_n 2, 1) := by decide +kernel
theorem dX6_hang_70 : decode cX6_hang 70 = .ok (.invokevirtual 70, 3) := by decide +kernel
theorem dX6_hang_73 : decode cX6_hang 73 = .ok (.iload_n 3, 1) := by decide +kernel
theorem dX6_hang_74 : decode cX6_hang 74 = .ok (.ireturn, 1) := by decide +kernel
theorem dX6_layAside_0 : decode cX6_layAside 0 = .ok (.aload_n 0, 1) := by decide +kernel
theorem dX6_layAside_1 : decode cX6_layAside 1 = .ok (.iconst 0, 1) := by decide +kernel
theorem dX6_layAside_2 : decode cX6_layAside 2 = .ok (.putfield 30, 3) := by decide +kernel
theorem dX6_layAside_5 : decode cX6_layAside 5 = .ok (.aload_n 0, 1) := by decide +kernel
theorem dX6_layAside_6 : decode cX6_layAside 6 = .ok (.iload_n 1, 1) := by decide +kernel
theorem dX6_layAside_7 : decode cX6_layAside 7 = .ok (.invokevirtual 63, 3) := by decide +kernel
theorem dX6_layAside_10 : decode cX6_layAside 10 = .ok (.ifCond .ne 9, 3) := by decide +kernel
theorem dX6_layAside_13 : decode cX6_layAside 13 = .ok (.aload_n 0, 1) := by decide +kernel
theorem dX6_layAside_14 : decode cX6_layAside 14 = .ok (.iconst 1, 1) := by decide +kernel
theorem dX6_layAside_15 : decode cX6_layAside 15 = .ok (.invokevirtual 40, 3) := by decide +kernel
theorem dX6_layAside_18 : decode cX6_layAside 18 = .ok (.ireturn, 1) := by decide +kernel
theorem dX6_layAside_19 : decode cX6_layAside 19 = .ok (.aload_n 0, 1) := by decide +kernel
theorem dX6_layAside_20 : decode cX6_layAside 20 = .ok (.iload_n 1, 1) := by decide +kernel
theorem dX6_layAside_21 : decode cX6_layAside 21 = .ok (.iconst 5, 1) := by decide +kernel
theorem dX6_layAside_22 : decode cX6_layAside 22 = .ok (.invokevirtual 59, 3) := by decide +kernel
theorem dX6_layAside_25 : decode cX6_layAside 25 = .ok (.istore_n 2, 1) := by decide +kernel
theorem dX6_layAside_26 : decode cX6_layAside 26 = .ok (.iload_n 2, 1) := by decide +kernel
theorem dX6_layAside_27 : decode cX6_layAside 27 = .ok (.iconst (-1), 1) := by decide +kernel
theorem dX6_layAside_28 : decode cX6_layAside 28 = .ok (.if_icmp .ne 9, 3) := by decide +kernel
theorem dX6_layAside_31 : decode cX6_layAside 31 = .ok (.aload_n 0, 1) := by decide +kernel
theorem dX6_layAside_32 : decode cX6_layAside 32 = .ok (.iconst 2, 1) := by decide +kernel
theorem dX6_layAside_33 : decode cX6_layAside 33 = .ok (.invokevirtual 40, 3) := by decide +kernel
theorem dX6_layAside_36 : decode cX6_layAside 36 = .ok (.ireturn, 1) := by decide +kernel
theorem dX6_layAside_37 : decode cX6_layAside 37 = .ok (.aload_n 0, 1) := by decide +kernel
theorem dX6_layAside_38 : decode cX6_layAside 38 = .ok (.iload_n 1, 1) := by decide +kernel
theorem dX6_layAside_39 : decode cX6_layAside 39 = .ok (.iconst 5, 1) := by decide +kernel
theorem dX6_layAside_40 : decode cX6_layAside 40 = .ok (.iconst (-1), 1) := by decide +kernel
theorem dX6_layAside_41 : decode cX6_layAside 41 = .ok (.invokevirtual 70, 3) := by decide +kernel
theorem dX6_layAside_44 : decode cX6_layAside 44 = .ok (.iload_n 2, 1) := by decide +kernel
theorem dX6_layAside_45 : decode cX6_layAside 45 = .ok (.ireturn, 1) := by decide +kernel
theorem dX6_take_0 : decode cX6_take 0 = .ok (.aload_n 0, 1) := by decide +kernel
theorem dX6_take_1 : decode cX6_take 1 = .ok (.getfield 23, 3) := by decide +kernel
theorem dX6_take_4 : decode cX6_take 4 = .ok (.iconst 0, 1) := by decide +kernel
theorem dX6_take_5 : decode cX6_take 5 = .ok (.aload_n 0, 1) := by decide +kernel
theorem dX6_take_6 : decode cX6_take 6 = .ok (.getfield 44, 3) := by decide +kernel
theorem dX6_take_9 : decode cX6_take 9 = .ok (.iastore, 1) := by decide +kernel
theorem dX6_take_10 : decode cX6_take 10 = .ok (.aload_n 0, 1) := by decide +kernel
theorem dX6_take_11 : decode cX6_take 11 = .ok (.getfield 23, 3) := by decide +kernel
theorem dX6_take_14 : decode cX6_take 14 = .ok (.iconst 1, 1) := by decide +kernel
theorem dX6_take_15 : decode cX6_take 15 = .ok (.aload_n 0, 1) := by decide +kernel
theorem dX6_take_16 : decode cX6_take 16 = .ok (.getfield 7, 3) := by decide +kernel
theorem dX6_take_19 : decode cX6_take 19 = .ok (.iastore, 1) := by decide +kernel
theorem dX6_take_20 : decode cX6_take 20 = .ok (.aload_n 0, 1) := by decide +kernel
theorem dX6_take_21 : decode cX6_take 21 = .ok (.getfield 23, 3) := by decide +kernel
theorem dX6_take_24 : decode cX6_take 24 = .ok (.iconst 2, 1) := by decide +kernel
theorem dX6_take_25 : decode cX6_take 25 = .ok (.aload_n 0, 1) := by decide +kernel
theorem dX6_take_26 : decode cX6_take 26 = .ok (.iload_n 1, 1) := by decide +kernel
theorem dX6_take_27 : decode cX6_take 27 = .ok (.iconst 2, 1) := by decide +kernel
theorem dX6_take_28 : decode cX6_take 28 = .ok (.invokevirtual 59, 3) := by decide +kernel
theorem dX6_take_31 : decode cX6_take 31 = .ok (.iastore, 1) := by decide +kernel
theorem dX6_take_32 : decode cX6_take 32 = .ok (.aload_n 0, 1) := by decide +kernel
theorem dX6_take_33 : decode cX6_take 33 = .ok (.getfield 23, 3) := by decide +kernel
theorem dX6_take_36 : decode cX6_take 36 = .ok (.iconst 3, 1) := by decide +kernel
theorem dX6_take_37 : decode cX6_take 37 = .ok (.aload_n 0, 1) := by decide +kernel
theorem dX6_take_38 : decode cX6_take 38 = .ok (.iload_n 1, 1) := by decide +kernel
theorem dX6_take_39 : decode cX6_take 39 = .ok (.iconst 3, 1) := by decide +kernel
theorem dX6_take_40 : decode cX6_take 40 = .ok (.invokevirtual 59, 3) := by decide +kernel
theorem dX6_take_43 : decode cX6_take 43 = .ok (.iastore, 1) := by decide +kernel
theorem dX6_take_44 : decode cX6_take 44 = .ok (.aload_n 0, 1) := by decide +kernel
theorem dX6_take_45 : decode cX6_take 45 = .ok (.getfield 23, 3) := by decide +kernel
theorem dX6_take_48 : decode cX6_take 48 = .ok (.iconst 4, 1) := by decide +kernel
theorem dX6_take_49 : decode cX6_take 49 = .ok (.aload_n 0, 1) := by decide +kernel
theorem dX6_take_50 : decode cX6_take 50 = .ok (.iload_n 1, 1) := by decide +kernel
theorem dX6_take_51 : decode cX6_take 51 = .ok (.iconst 4, 1) := by decide +kernel
theorem dX6_take_52 : decode cX6_take 52 = .ok (.invokevirtual 59, 3) := by decide +kernel
theorem dX6_take_55 : decode cX6_take 55 = .ok (.iastore, 1) := by decide +kernel
theorem dX6_take_56 : decode cX6_take 56 = .ok (.return_, 1) := by decide +kernel
theorem dX6_grows_0 : decode cX6_grows 0 = .ok (.aload_n 0, 1) := by decide +kernel
theorem dX6_grows_1 : decode cX6_grows 1 = .ok (.getfield 23, 3) := by decide +kernel
theorem dX6_grows_4 : decode cX6_grows 4 = .ok (.iconst 3, 1) := by decide +kernel
theorem dX6_grows_5 : decode cX6_grows 5 = .ok (.iaload, 1) := by decide +kernel
theorem dX6_grows_6 : decode cX6_grows 6 = .ok (.bipush 70, 2) := by decide +kernel
theorem dX6_grows_8 : decode cX6_grows 8 = .ok (.if_icmp .le 25, 3) := by decide +kernel
theorem dX6_grows_11 : decode cX6_grows 11 = .ok (.aload_n 0, 1) := by decide +kernel
theorem dX6_grows_12 : decode cX6_grows 12 = .ok (.getfield 23, 3) := by decide +kernel
theorem dX6_grows_15 : decode cX6_grows 15 = .ok (.iconst 2, 1) := by decide +kernel
theorem dX6_grows_16 : decode cX6_grows 16 = .ok (.iaload, 1) := by decide +kernel
theorem dX6_grows_17 : decode cX6_grows 17 = .ok (.aload_n 0, 1) := by decide +kernel
theorem dX6_grows_18 : decode cX6_grows 18 = .ok (.getfield 23, 3) := by decide +kernel
theorem dX6_grows_21 : decode cX6_grows 21 = .ok (.iconst 1, 1) := by decide +kernel
theorem dX6_grows_22 : decode cX6_grows 22 = .ok (.iaload, 1) := by decide +kernel
theorem dX6_grows_23 : decode cX6_grows 23 = .ok (.bipush 55, 2) := by decide +kernel
theorem dX6_grows_25 : decode cX6_grows 25 = .ok (.isub, 1) := by decide +kernel
theorem dX6_grows_26 : decode cX6_grows 26 = .ok (.iconst 5, 1) := by decide +kernel
theorem dX6_grows_27 : decode cX6_grows 27 = .ok (.idiv, 1) := by decide +kernel
theorem dX6_grows_28 : decode cX6_grows 28 = .ok (.invokestatic 74, 3) := by decide +kernel
theorem dX6_grows_31 : decode cX6_grows 31 = .ok (.ineg, 1) := by decide +kernel
theorem dX6_grows_32 : decode cX6_grows 32 = .ok (.ireturn, 1) := by decide +kernel
theorem dX6_grows_33 : decode cX6_grows 33 = .ok (.bipush 12, 2) := by decide +kernel
theorem dX6_grows_35 : decode cX6_grows 35 = .ok (.aload_n 0, 1) := by decide +kernel
theorem dX6_grows_36 : decode cX6_grows 36 = .ok (.getfield 23, 3) := by decide +kernel
theorem dX6_grows_39 : decode cX6_grows 39 = .ok (.iconst 1, 1) := by decide +kernel
theorem dX6_grows_40 : decode cX6_grows 40 = .ok (.iaload, 1) := by decide +kernel
theorem dX6_grows_41 : decode cX6_grows 41 = .ok (.bipush 60, 2) := by decide +kernel
theorem dX6_grows_43 : decode cX6_grows 43 = .ok (.isub, 1) := by decide +kernel
theorem dX6_grows_44 : decode cX6_grows 44 = .ok (.bipush 8, 2) := by decide +kernel
theorem dX6_grows_46 : decode cX6_grows 46 = .ok (.idiv, 1) := by decide +kernel
theorem dX6_grows_47 : decode cX6_grows 47 = .ok (.isub, 1) := by decide +kernel
theorem dX6_grows_48 : decode cX6_grows 48 = .ok (.aload_n 0, 1) := by decide +kernel
theorem dX6_grows_49 : decode cX6_grows 49 = .ok (.getfield 23, 3) := by decide +kernel
theorem dX6_grows_52 : decode cX6_grows 52 = .ok (.iconst 2, 1) := by decide +kernel
theorem dX6_grows_53 : decode cX6_grows 53 = .ok (.iaload, 1) := by decide +kernel
theorem dX6_grows_54 : decode cX6_grows 54 = .ok (.ifCond .ne 7, 3) := by decide +kernel
theorem dX6_grows_57 : decode cX6_grows 57 = .ok (.iconst 4, 1) := by decide +kernel
theorem dX6_grows_58 : decode cX6_grows 58 = .ok (.goto 4, 3) := by decide +kernel
theorem dX6_grows_61 : decode cX6_grows 61 = .ok (.iconst 0, 1) := by decide +kernel
theorem dX6_grows_62 : decode cX6_grows 62 = .ok (.iadd, 1) := by decide +kernel
theorem dX6_grows_63 : decode cX6_grows 63 = .ok (.aload_n 0, 1) := by decide +kernel
theorem dX6_grows_64 : decode cX6_grows 64 = .ok (.iload_n 1, 1) := by decide +kernel
theorem dX6_grows_65 : decode cX6_grows 65 = .ok (.iconst 0, 1) := by decide +kernel
theorem dX6_grows_66 : decode cX6_grows 66 = .ok (.invokevirtual 59, 3) := by decide +kernel
theorem dX6_grows_69 : decode cX6_grows 69 = .ok (.iconst 3, 1) := by decide +kernel
theorem dX6_grows_70 : decode cX6_grows 70 = .ok (.if_icmp .ne 7, 3) := by decide +kernel
theorem dX6_grows_73 : decode cX6_grows 73 = .ok (.iconst 3, 1) := by decide +kernel
theorem dX6_grows_74 : decode cX6_grows 74 = .ok (.goto 4, 3) := by decide +kernel
theorem dX6_grows_77 : decode cX6_grows 77 = .ok (.iconst 0, 1) := by decide +kernel
theorem dX6_grows_78 : decode cX6_grows 78 = .ok (.isub, 1) := by decide +kernel
theorem dX6_grows_79 : decode cX6_grows 79 = .ok (.istore_n 2, 1) := by decide +kernel
theorem dX6_grows_80 : decode cX6_grows 80 = .ok (.iload_n 2, 1) := by decide +kernel
theorem dX6_grows_81 : decode cX6_grows 81 = .ok (.sipush 400, 3) := by decide +kernel
theorem dX6_grows_84 : decode cX6_grows 84 = .ok (.aload_n 0, 1) := by decide +kernel
theorem dX6_grows_85 : decode cX6_grows 85 = .ok (.getfield 23, 3) := by decide +kernel
theorem dX6_grows_88 : decode cX6_grows 88 = .ok (.iconst 2, 1) := by decide +kernel
theorem dX6_grows_89 : decode cX6_grows 89 = .ok (.iaload, 1) := by decide +kernel
theorem dX6_grows_90 : decode cX6_grows 90 = .ok (.isub, 1) := by decide +kernel
theorem dX6_grows_91 : decode cX6_grows 91 = .ok (.invokestatic 74, 3) := by decide +kernel
theorem dX6_grows_94 : decode cX6_grows 94 = .ok (.ireturn, 1) := by decide +kernel
theorem dX6_waxOf_0 : decode cX6_waxOf 0 = .ok (.iload_n 2, 1) := by decide +kernel
theorem dX6_waxOf_1 : decode cX6_waxOf 1 = .ok (.bipush 8, 2) := by decide +kernel
theorem dX6_waxOf_3 : decode cX6_waxOf 3 = .ok (.aload_n 0, 1) := by decide +kernel
theorem dX6_waxOf_4 : decode cX6_waxOf 4 = .ok (.iload_n 1, 1) := by decide +kernel
theorem dX6_waxOf_5 : decode cX6_waxOf 5 = .ok (.iconst 0, 1) := by decide +kernel
theorem dX6_waxOf_6 : decode cX6_waxOf 6 = .ok (.invokevirtual 59, 3) := by decide +kernel
theorem dX6_waxOf_9 : decode cX6_waxOf 9 = .ok (.iadd, 1) := by decide +kernel
theorem dX6_waxOf_10 : decode cX6_waxOf 10 = .ok (.imul, 1) := by decide +kernel
theorem dX6_waxOf_11 : decode cX6_waxOf 11 = .ok (.aload_n 0, 1) := by decide +kernel
theorem dX6_waxOf_12 : decode cX6_waxOf 12 = .ok (.iload_n 1, 1) := by decide +kernel
theorem dX6_waxOf_13 : decode cX6_waxOf 13 = .ok (.iconst 1, 1) := by decide +kernel
theorem dX6_waxOf_14 : decode cX6_waxOf 14 = .ok (.invokevirtual 59, 3) := by decide +kernel
theorem dX6_waxOf_17 : decode cX6_waxOf 17 = .ok (.imul, 1) := by decide +kernel
theorem dX6_waxOf_18 : decode cX6_waxOf 18 = .ok (.bipush 10, 2) := by decide +kernel
theorem dX6_waxOf_20 : decode cX6_waxOf 20 = .ok (.idiv, 1) := by decide +kernel
theorem dX6_waxOf_21 : decode cX6_waxOf 21 = .ok (.ireturn, 1) := by decide +kernel
theorem dX6_can_0 : decode cX6_can 0 = .ok (.aload_n 0, 1) := by decide +kernel
theorem dX6_can_1 : decode cX6_can 1 = .ok (.getfield 23, 3) := by decide +kernel
theorem dX6_can_4 : decode cX6_can 4 = .ok (.iconst 1, 1) := by decide +kernel
theorem dX6_can_5 : decode cX6_can 5 = .ok (.iaload, 1) := by decide +kernel
theorem dX6_can_6 : decode cX6_can 6 = .ok (.bipush 60, 2) := by decide +kernel
theorem dX6_can_8 : decode cX6_can 8 = .ok (.if_icmp .lt 37, 3) := by decide +kernel
theorem dX6_can_11 : decode cX6_can 11 = .ok (.aload_n 0, 1) := by decide +kernel
theorem dX6_can_12 : decode cX6_can 12 = .ok (.getfield 23, 3) := by decide +kernel
theorem dX6_can_15 : decode cX6_can 15 = .ok (.iconst 3, 1) := by decide +kernel
theorem dX6_can_16 : decode cX6_can 16 = .ok (.iaload, 1) := by decide +kernel
theorem dX6_can_17 : decode cX6_can 17 = .ok (.bipush 70, 2) := by decide +kernel
theorem dX6_can_19 : decode cX6_can 19 = .ok (.if_icmp .gt 22, 3) := by decide +kernel
theorem dX6_can_22 : decode cX6_can 22 = .ok (.aload_n 0, 1) := by decide +kernel
theorem dX6_can_23 : decode cX6_can 23 = .ok (.iload_n 1, 1) := by decide +kernel
theorem dX6_can_24 : decode cX6_can 24 = .ok (.aload_n 0, 1) := by decide +kernel
theorem dX6_can_25 : decode cX6_can 25 = .ok (.iload_n 1, 1) := by decide +kernel
theorem dX6_can_26 : decode cX6_can 26 = .ok (.invokevirtual 79, 3) := by decide +kernel
theorem dX6_can_29 : decode cX6_can 29 = .ok (.invokevirtual 82, 3) := by decide +kernel
theorem dX6_can_32 : decode cX6_can 32 = .ok (.aload_n 0, 1) := by decide +kernel
theorem dX6_can_33 : decode cX6_can 33 = .ok (.getfield 23, 3) := by decide +kernel
theorem dX6_can_36 : decode cX6_can 36 = .ok (.iconst 0, 1) := by decide +kernel
theorem dX6_can_37 : decode cX6_can 37 = .ok (.iaload, 1) := by decide +kernel
theorem dX6_can_38 : decode cX6_can 38 = .ok (.if_icmp .gt 7, 3) := by decide +kernel
theorem dX6_can_41 : decode cX6_can 41 = .ok (.iconst 1, 1) := by decide +kernel
theorem dX6_can_42 : decode cX6_can 42 = .ok (.goto 4, 3) := by decide +kernel
theorem dX6_can_45 : decode cX6_can 45 = .ok (.iconst 0, 1) := by decide +kernel
theorem dX6_can_46 : decode cX6_can 46 = .ok (.ireturn, 1) := by decide +kernel
theorem dX6_dipIt_0 : decode cX6_dipIt 0 = .ok (.aload_n 0, 1) := by decide +kernel
theorem dX6_dipIt_1 : decode cX6_dipIt 1 = .ok (.iload_n 1, 1) := by decide +kernel
theorem dX6_dipIt_2 : decode cX6_dipIt 2 = .ok (.invokevirtual 79, 3) := by decide +kernel
theorem dX6_dipIt_5 : decode cX6_dipIt 5 = .ok (.istore_n 2, 1) := by decide +kernel
theorem dX6_dipIt_6 : decode cX6_dipIt 6 = .ok (.aload_n 0, 1) := by decide +kernel
theorem dX6_dipIt_7 : decode cX6_dipIt 7 = .ok (.getfield 23, 3) := by decide +kernel
theorem dX6_dipIt_10 : decode cX6_dipIt 10 = .ok (.iconst 3, 1) := by decide +kernel
theorem dX6_dipIt_11 : decode cX6_dipIt 11 = .ok (.iaload, 1) := by decide +kernel
theorem dX6_dipIt_12 : decode cX6_dipIt 12 = .ok (.bipush 70, 2) := by decide +kernel
theorem dX6_dipIt_14 : decode cX6_dipIt 14 = .ok (.if_icmp .le 38, 3) := by decide +kernel
theorem dX6_dipIt_17 : decode cX6_dipIt 17 = .ok (.aload_n 0, 1) := by decide +kernel
theorem dX6_dipIt_18 : decode cX6_dipIt 18 = .ok (.getfield 23, 3) := by decide +kernel
theorem dX6_dipIt_21 : decode cX6_dipIt 21 = .ok (.iconst 2, 1) := by decide +kernel
theorem dX6_dipIt_22 : decode cX6_dipIt 22 = .ok (.dup2, 1) := by decide +kernel
theorem dX6_dipIt_23 : decode cX6_dipIt 23 = .ok (.iaload, 1) := by decide +kernel
theorem dX6_dipIt_24 : decode cX6_dipIt 24 = .ok (.iload_n 2, 1) := by decide +kernel
theorem dX6_dipIt_25 : decode cX6_dipIt 25 = .ok (.iadd, 1) := by decide +kernel
theorem dX6_dipIt_26 : decode cX6_dipIt 26 = .ok (.iastore, 1) := by decide +kernel
theorem dX6_dipIt_27 : decode cX6_dipIt 27 = .ok (.aload_n 0, 1) := by decide +kernel
theorem dX6_dipIt_28 : decode cX6_dipIt 28 = .ok (.getfield 23, 3) := by decide +kernel
theorem dX6_dipIt_31 : decode cX6_dipIt 31 = .ok (.iconst 2, 1) := by decide +kernel
theorem dX6_dipIt_32 : decode cX6_dipIt 32 = .ok (.iaload, 1) := by decide +kernel
theorem dX6_dipIt_33 : decode cX6_dipIt 33 = .ok (.ifCond .ne 10, 3) := by decide +kernel
theorem dX6_dipIt_36 : decode cX6_dipIt 36 = .ok (.aload_n 0, 1) := by decide +kernel
theorem dX6_dipIt_37 : decode cX6_dipIt 37 = .ok (.getfield 23, 3) := by decide +kernel
theorem dX6_dipIt_40 : decode cX6_dipIt 40 = .ok (.iconst 4, 1) := by decide +kernel
theorem dX6_dipIt_41 : decode cX6_dipIt 41 = .ok (.iconst 0, 1) := by decide +kernel
theorem dX6_dipIt_42 : decode cX6_dipIt 42 = .ok (.iastore, 1) := by decide +kernel
theorem dX6_dipIt_43 : decode cX6_dipIt 43 = .ok (.aload_n 0, 1) := by decide +kernel
theorem dX6_dipIt_44 : decode cX6_dipIt 44 = .ok (.getfield 23, 3) := by decide +kernel
theorem dX6_dipIt_47 : decode cX6_dipIt 47 = .ok (.iconst 3, 1) := by decide +kernel
theorem dX6_dipIt_48 : decode cX6_dipIt 48 = .ok (.bipush 100, 2) := by decide +kernel
theorem dX6_dipIt_50 : decode cX6_dipIt 50 = .ok (.iastore, 1) := by decide +kernel
theorem dX6_dipIt_51 : decode cX6_dipIt 51 = .ok (.return_, 1) := by decide +kernel
theorem dX6_dipIt_52 : decode cX6_dipIt 52 = .ok (.aload_n 0, 1) := by decide +kernel
theorem dX6_dipIt_53 : decode cX6_dipIt 53 = .ok (.getfield 23, 3) := by decide +kernel
theorem dX6_dipIt_56 : decode cX6_dipIt 56 = .ok (.iconst 2, 1) := by decide +kernel
theorem dX6_dipIt_57 : decode cX6_dipIt 57 = .ok (.iaload, 1) := by decide +kernel
theorem dX6_dipIt_58 : decode cX6_dipIt 58 = .ok (.ifCond .le 21, 3) := by decide +kernel
theorem dX6_dipIt_61 : decode cX6_dipIt 61 = .ok (.aload_n 0, 1) := by decide +kernel
theorem dX6_dipIt_62 : decode cX6_dipIt 62 = .ok (.getfield 23, 3) := by decide +kernel
theorem dX6_dipIt_65 : decode cX6_dipIt 65 = .ok (.iconst 3, 1) := by decide +kernel
theorem dX6_dipIt_66 : decode cX6_dipIt 66 = .ok (.iaload, 1) := by decide +kernel
theorem dX6_dipIt_67 : decode cX6_dipIt 67 = .ok (.bipush 10, 2) := by decide +kernel
theorem dX6_dipIt_69 : decode cX6_dipIt 69 = .ok (.if_icmp .ge 10, 3) := by decide +kernel
theorem dX6_dipIt_72 : decode cX6_dipIt 72 = .ok (.aload_n 0, 1) := by decide +kernel
theorem dX6_dipIt_73 : decode cX6_dipIt 73 = .ok (.getfield 23, 3) := by decide +kernel
theorem dX6_dipIt_76 : decode cX6_dipIt 76 = .ok (.iconst 4, 1) := by decide +kernel
theorem dX6_dipIt_77 : decode cX6_dipIt 77 = .ok (.iconst 1, 1) := by decide +kernel
theorem dX6_dipIt_78 : decode cX6_dipIt 78 = .ok (.iastore, 1) := by decide +kernel
theorem dX6_dipIt_79 : decode cX6_dipIt 79 = .ok (.aload_n 0, 1) := by decide +kernel
theorem dX6_dipIt_80 : decode cX6_dipIt 80 = .ok (.getfield 23, 3) := by decide +kernel
theorem dX6_dipIt_83 : decode cX6_dipIt 83 = .ok (.iconst 0, 1) := by decide +kernel
theorem dX6_dipIt_84 : decode cX6_dipIt 84 = .ok (.dup2, 1) := by decide +kernel
theorem dX6_dipIt_85 : decode cX6_dipIt 85 = .ok (.iaload, 1) := by decide +kernel
theorem dX6_dipIt_86 : decode cX6_dipIt 86 = .ok (.aload_n 0, 1) := by decide +kernel
theorem dX6_dipIt_87 : decode cX6_dipIt 87 = .ok (.iload_n 1, 1) := by decide +kernel
theorem dX6_dipIt_88 : decode cX6_dipIt 88 = .ok (.iload_n 2, 1) := by decide +kernel
theorem dX6_dipIt_89 : decode cX6_dipIt 89 = .ok (.invokevirtual 82, 3) := by decide +kernel
theorem dX6_dipIt_92 : decode cX6_dipIt 92 = .ok (.isub, 1) := by decide +kernel
theorem dX6_dipIt_93 : decode cX6_dipIt 93 = .ok (.iastore, 1) := by decide +kernel
theorem dX6_dipIt_94 : decode cX6_dipIt 94 = .ok (.aload_n 0, 1) := by decide +kernel
theorem dX6_dipIt_95 : decode cX6_dipIt 95 = .ok (.getfield 23, 3) := by decide +kernel
theorem dX6_dipIt_98 : decode cX6_dipIt 98 = .ok (.iconst 2, 1) := by decide +kernel
theorem dX6_dipIt_99 : decode cX6_dipIt 99 = .ok (.dup2, 1) := by decide +kernel
theorem dX6_dipIt_100 : decode cX6_dipIt 100 = .ok (.iaload, 1) := by decide +kernel
theorem dX6_dipIt_101 : decode cX6_dipIt 101 = .ok (.iload_n 2, 1) := by decide +kernel
theorem dX6_dipIt_102 : decode cX6_dipIt 102 = .ok (.iadd, 1) := by decide +kernel
theorem dX6_dipIt_103 : decode cX6_dipIt 103 = .ok (.iastore, 1) := by decide +kernel
theorem dX6_dipIt_104 : decode cX6_dipIt 104 = .ok (.aload_n 0, 1) := by decide +kernel
theorem dX6_dipIt_105 : decode cX6_dipIt 105 = .ok (.getfield 23, 3) := by decide +kernel
theorem dX6_dipIt_108 : decode cX6_dipIt 108 = .ok (.iconst 3, 1) := by decide +kernel
theorem dX6_dipIt_109 : decode cX6_dipIt 109 = .ok (.bipush 100, 2) := by decide +kernel
theorem dX6_dipIt_111 : decode cX6_dipIt 111 = .ok (.aload_n 0, 1) := by decide +kernel
theorem dX6_dipIt_112 : decode cX6_dipIt 112 = .ok (.getfield 23, 3) := by decide +kernel
theorem dX6_dipIt_115 : decode cX6_dipIt 115 = .ok (.iconst 3, 1) := by decide +kernel
theorem dX6_dipIt_116 : decode cX6_dipIt 116 = .ok (.iaload, 1) := by decide +kernel
theorem dX6_dipIt_117 : decode cX6_dipIt 117 = .ok (.aload_n 0, 1) := by decide +kernel
theorem dX6_dipIt_118 : decode cX6_dipIt 118 = .ok (.getfield 23, 3) := by decide +kernel
theorem dX6_dipIt_121 : decode cX6_dipIt 121 = .ok (.iconst 1, 1) := by decide +kernel
theorem dX6_dipIt_122 : decode cX6_dipIt 122 = .ok (.iaload, 1) := by decide +kernel
theorem dX6_dipIt_123 : decode cX6_dipIt 123 = .ok (.iadd, 1) := by decide +kernel
theorem dX6_dipIt_124 : decode cX6_dipIt 124 = .ok (.iconst 2, 1) := by decide +kernel
theorem dX6_dipIt_125 : decode cX6_dipIt 125 = .ok (.idiv, 1) := by decide +kernel
theorem dX6_dipIt_126 : decode cX6_dipIt 126 = .ok (.invokestatic 74, 3) := by decide +kernel
theorem dX6_dipIt_129 : decode cX6_dipIt 129 = .ok (.iastore, 1) := by decide +kernel
theorem dX6_dipIt_130 : decode cX6_dipIt 130 = .ok (.return_, 1) := by decide +kernel
theorem dX6_heatBehind_0 : decode cX6_heatBehind 0 = .ok (.iload_n 1, 1) := by decide +kernel
theorem dX6_heatBehind_1 : decode cX6_heatBehind 1 = .ok (.bipush 6, 2) := by decide +kernel
theorem dX6_heatBehind_3 : decode cX6_heatBehind 3 = .ok (.aload_n 0, 1) := by decide +kernel
theorem dX6_heatBehind_4 : decode cX6_heatBehind 4 = .ok (.getfield 47, 3) := by decide +kernel
theorem dX6_heatBehind_7 : decode cX6_heatBehind 7 = .ok (.imul, 1) := by decide +kernel
theorem dX6_heatBehind_8 : decode cX6_heatBehind 8 = .ok (.iadd, 1) := by decide +kernel
theorem dX6_heatBehind_9 : decode cX6_heatBehind 9 = .ok (.istore_n 2, 1) := by decide +kernel
theorem dX6_heatBehind_10 : decode cX6_heatBehind 10 = .ok (.iconst 0, 1) := by decide +kernel
theorem dX6_heatBehind_11 : decode cX6_heatBehind 11 = .ok (.bipush 120, 2) := by decide +kernel
theorem dX6_heatBehind_13 : decode cX6_heatBehind 13 = .ok (.iload_n 2, 1) := by decide +kernel
theorem dX6_heatBehind_14 : decode cX6_heatBehind 14 = .ok (.iload_n 2, 1) := by decide +kernel
theorem dX6_heatBehind_15 : decode cX6_heatBehind 15 = .ok (.bipush 20, 2) := by decide +kernel
theorem dX6_heatBehind_17 : decode cX6_heatBehind 17 = .ok (.isub, 1) := by decide +kernel
theorem dX6_heatBehind_18 : decode cX6_heatBehind 18 = .ok (.bipush 10, 2) := by decide +kernel
theorem dX6_heatBehind_20 : decode cX6_heatBehind 20 = .ok (.idiv, 1) := by decide +kernel
theorem dX6_heatBehind_21 : decode cX6_heatBehind 21 = .ok (.isub, 1) := by decide +kernel
theorem dX6_heatBehind_22 : decode cX6_heatBehind 22 = .ok (.invokestatic 74, 3) := by decide +kernel
theorem dX6_heatBehind_25 : decode cX6_heatBehind 25 = .ok (.invokestatic 85, 3) := by decide +kernel
theorem dX6_heatBehind_28 : decode cX6_heatBehind 28 = .ok (.ireturn, 1) := by decide +kernel
theorem dX6_cools_0 : decode cX6_cools 0 = .ok (.aload_n 0, 1) := by decide +kernel
theorem dX6_cools_1 : decode cX6_cools 1 = .ok (.iload_n 1, 1) := by decide +kernel
theorem dX6_cools_2 : decode cX6_cools 2 = .ok (.iconst 5, 1) := by decide +kernel
theorem dX6_cools_3 : decode cX6_cools 3 = .ok (.invokevirtual 59, 3) := by decide +kernel
theorem dX6_cools_6 : decode cX6_cools 6 = .ok (.iconst (-1), 1) := by decide +kernel
theorem dX6_cools_7 : decode cX6_cools 7 = .ok (.if_icmp .ne 7, 3) := by decide +kernel
theorem dX6_cools_10 : decode cX6_cools 10 = .ok (.iconst 3, 1) := by decide +kernel
theorem dX6_cools_11 : decode cX6_cools 11 = .ok (.goto 21, 3) := by decide +kernel
theorem dX6_cools_14 : decode cX6_cools 14 = .ok (.aload_n 0, 1) := by decide +kernel
theorem dX6_cools_15 : decode cX6_cools 15 = .ok (.iload_n 1, 1) := by decide +kernel
theorem dX6_cools_16 : decode cX6_cools 16 = .ok (.iconst 5, 1) := by decide +kernel
theorem dX6_cools_17 : decode cX6_cools 17 = .ok (.invokevirtual 59, 3) := by decide +kernel
theorem dX6_cools_20 : decode cX6_cools 20 = .ok (.bipush 6, 2) := by decide +kernel
theorem dX6_cools_22 : decode cX6_cools 22 = .ok (.if_icmp .ge 8, 3) := by decide +kernel
theorem dX6_cools_25 : decode cX6_cools 25 = .ok (.bipush 12, 2) := by decide +kernel
theorem dX6_cools_27 : decode cX6_cools 27 = .ok (.goto 5, 3) := by decide +kernel
theorem dX6_cools_30 : decode cX6_cools 30 = .ok (.bipush 6, 2) := by decide +kernel
theorem dX6_cools_32 : decode cX6_cools 32 = .ok (.ireturn, 1) := by decide +kernel
theorem dX6_quarterOn_0 : decode cX6_quarterOn 0 = .ok (.aload_n 0, 1) := by decide +kernel
theorem dX6_quarterOn_1 : decode cX6_quarterOn 1 = .ok (.aload_n 0, 1) := by decide +kernel
theorem dX6_quarterOn_2 : decode cX6_quarterOn 2 = .ok (.aload_n 0, 1) := by decide +kernel
theorem dX6_quarterOn_3 : decode cX6_quarterOn 3 = .ok (.getfield 7, 3) := by decide +kernel
theorem dX6_quarterOn_6 : decode cX6_quarterOn 6 = .ok (.invokevirtual 88, 3) := by decide +kernel
theorem dX6_quarterOn_9 : decode cX6_quarterOn 9 = .ok (.putfield 7, 3) := by decide +kernel
theorem dX6_quarterOn_12 : decode cX6_quarterOn 12 = .ok (.iconst 0, 1) := by decide +kernel
theorem dX6_quarterOn_13 : decode cX6_quarterOn 13 = .ok (.istore_n 2, 1) := by decide +kernel
