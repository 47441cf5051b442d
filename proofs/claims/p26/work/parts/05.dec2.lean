theorem dX5_cutOff_29 : decode cX5_cutOff 29 = .ok (.athrow, 1) := by decide +kernel
theorem dX5_cutOff_30 : decode cX5_cutOff 30 = .ok (.aload_n 2, 1) := by decide +kernel
theorem dX5_cutOff_31 : decode cX5_cutOff 31 = .ok (.invokevirtual 146, 3) := by decide +kernel
theorem dX5_cutOff_34 : decode cX5_cutOff 34 = .ok (.istore_n 3, 1) := by decide +kernel
theorem dX5_cutOff_35 : decode cX5_cutOff 35 = .ok (.iload_n 3, 1) := by decide +kernel
theorem dX5_cutOff_36 : decode cX5_cutOff 36 = .ok (.ifCond .ne 34, 3) := by decide +kernel
theorem dX5_cutOff_39 : decode cX5_cutOff 39 = .ok (.aload_n 0, 1) := by decide +kernel
theorem dX5_cutOff_40 : decode cX5_cutOff 40 = .ok (.dup, 1) := by decide +kernel
theorem dX5_cutOff_41 : decode cX5_cutOff 41 = .ok (.getfield 149, 3) := by decide +kernel
theorem dX5_cutOff_44 : decode cX5_cutOff 44 = .ok (.aload_n 2, 1) := by decide +kernel
theorem dX5_cutOff_45 : decode cX5_cutOff 45 = .ok (.getfield 152, 3) := by decide +kernel
theorem dX5_cutOff_48 : decode cX5_cutOff 48 = .ok (.iadd, 1) := by decide +kernel
theorem dX5_cutOff_49 : decode cX5_cutOff 49 = .ok (.putfield 149, 3) := by decide +kernel
theorem dX5_cutOff_52 : decode cX5_cutOff 52 = .ok (.aload_n 0, 1) := by decide +kernel
theorem dX5_cutOff_53 : decode cX5_cutOff 53 = .ok (.getfield 10, 3) := by decide +kernel
theorem dX5_cutOff_56 : decode cX5_cutOff 56 = .ok (.aload_n 2, 1) := by decide +kernel
theorem dX5_cutOff_57 : decode cX5_cutOff 57 = .ok (.aload_n 2, 1) := by decide +kernel
theorem dX5_cutOff_58 : decode cX5_cutOff 58 = .ok (.getfield 135, 3) := by decide +kernel
theorem dX5_cutOff_61 : decode cX5_cutOff 61 = .ok (.invokevirtual 155, 3) := by decide +kernel
theorem dX5_cutOff_64 : decode cX5_cutOff 64 = .ok (.invokevirtual 158, 3) := by decide +kernel
theorem dX5_cutOff_67 : decode cX5_cutOff 67 = .ok (.goto 19, 3) := by decide +kernel
theorem dX5_cutOff_70 : decode cX5_cutOff 70 = .ok (.aload_n 0, 1) := by decide +kernel
theorem dX5_cutOff_71 : decode cX5_cutOff 71 = .ok (.getfield 25, 3) := by decide +kernel
theorem dX5_cutOff_74 : decode cX5_cutOff 74 = .ok (.aload_n 2, 1) := by decide +kernel
theorem dX5_cutOff_75 : decode cX5_cutOff 75 = .ok (.getfield 161, 3) := by decide +kernel
theorem dX5_cutOff_78 : decode cX5_cutOff 78 = .ok (.iload_n 3, 1) := by decide +kernel
theorem dX5_cutOff_79 : decode cX5_cutOff 79 = .ok (.aload_n 2, 1) := by decide +kernel
theorem dX5_cutOff_80 : decode cX5_cutOff 80 = .ok (.getfield 152, 3) := by decide +kernel
theorem dX5_cutOff_83 : decode cX5_cutOff 83 = .ok (.invokevirtual 164, 3) := by decide +kernel
theorem dX5_cutOff_86 : decode cX5_cutOff 86 = .ok (.aload_n 2, 1) := by decide +kernel
theorem dX5_cutOff_87 : decode cX5_cutOff 87 = .ok (.invokevirtual 168, 3) := by decide +kernel
theorem dX5_cutOff_90 : decode cX5_cutOff 90 = .ok (.iload_n 3, 1) := by decide +kernel
theorem dX5_cutOff_91 : decode cX5_cutOff 91 = .ok (.ireturn, 1) := by decide +kernel
theorem dX5_frame_0 : decode cX5_frame 0 = .ok (.aload_n 0, 1) := by decide +kernel
theorem dX5_frame_1 : decode cX5_frame 1 = .ok (.iload_n 1, 1) := by decide +kernel
theorem dX5_frame_2 : decode cX5_frame 2 = .ok (.invokevirtual 98, 3) := by decide +kernel
theorem dX5_frame_5 : decode cX5_frame 5 = .ok (.astore_n 3, 1) := by decide +kernel
theorem dX5_frame_6 : decode cX5_frame 6 = .ok (.iload_n 2, 1) := by decide +kernel
theorem dX5_frame_7 : decode cX5_frame 7 = .ok (.tableswitch 93 0 7 #[45, 50, 55, 60, 65, 78, 83, 88], 45) := by decide +kernel
theorem dX5_frame_52 : decode cX5_frame 52 = .ok (.aload_n 3, 1) := by decide +kernel
theorem dX5_frame_53 : decode cX5_frame 53 = .ok (.getfield 161, 3) := by decide +kernel
theorem dX5_frame_56 : decode cX5_frame 56 = .ok (.ireturn, 1) := by decide +kernel
theorem dX5_frame_57 : decode cX5_frame 57 = .ok (.aload_n 3, 1) := by decide +kernel
theorem dX5_frame_58 : decode cX5_frame 58 = .ok (.getfield 152, 3) := by decide +kernel
theorem dX5_frame_61 : decode cX5_frame 61 = .ok (.ireturn, 1) := by decide +kernel
theorem dX5_frame_62 : decode cX5_frame 62 = .ok (.aload_n 3, 1) := by decide +kernel
theorem dX5_frame_63 : decode cX5_frame 63 = .ok (.getfield 135, 3) := by decide +kernel
theorem dX5_frame_66 : decode cX5_frame 66 = .ok (.ireturn, 1) := by decide +kernel
theorem dX5_frame_67 : decode cX5_frame 67 = .ok (.aload_n 3, 1) := by decide +kernel
theorem dX5_frame_68 : decode cX5_frame 68 = .ok (.getfield 171, 3) := by decide +kernel
theorem dX5_frame_71 : decode cX5_frame 71 = .ok (.ireturn, 1) := by decide +kernel
theorem dX5_frame_72 : decode cX5_frame 72 = .ok (.aload_n 3, 1) := by decide +kernel
theorem dX5_frame_73 : decode cX5_frame 73 = .ok (.getfield 174, 3) := by decide +kernel
theorem dX5_frame_76 : decode cX5_frame 76 = .ok (.ifCond .eq 7, 3) := by decide +kernel
theorem dX5_frame_79 : decode cX5_frame 79 = .ok (.iconst 1, 1) := by decide +kernel
theorem dX5_frame_80 : decode cX5_frame 80 = .ok (.goto 4, 3) := by decide +kernel
theorem dX5_frame_83 : decode cX5_frame 83 = .ok (.iconst 0, 1) := by decide +kernel
theorem dX5_frame_84 : decode cX5_frame 84 = .ok (.ireturn, 1) := by decide +kernel
theorem dX5_frame_85 : decode cX5_frame 85 = .ok (.aload_n 3, 1) := by decide +kernel
theorem dX5_frame_86 : decode cX5_frame 86 = .ok (.getfield 110, 3) := by decide +kernel
theorem dX5_frame_89 : decode cX5_frame 89 = .ok (.ireturn, 1) := by decide +kernel
theorem dX5_frame_90 : decode cX5_frame 90 = .ok (.aload_n 3, 1) := by decide +kernel
theorem dX5_frame_91 : decode cX5_frame 91 = .ok (.getfield 178, 3) := by decide +kernel
theorem dX5_frame_94 : decode cX5_frame 94 = .ok (.ireturn, 1) := by decide +kernel
theorem dX5_frame_95 : decode cX5_frame 95 = .ok (.aload_n 3, 1) := by decide +kernel
theorem dX5_frame_96 : decode cX5_frame 96 = .ok (.invokevirtual 146, 3) := by decide +kernel
theorem dX5_frame_99 : decode cX5_frame 99 = .ok (.ireturn, 1) := by decide +kernel
theorem dX5_frame_100 : decode cX5_frame 100 = .ok (.new 82, 3) := by decide +kernel
theorem dX5_frame_103 : decode cX5_frame 103 = .ok (.dup, 1) := by decide +kernel
theorem dX5_frame_104 : decode cX5_frame 104 = .ok (.ldc 181, 2) := by decide +kernel
theorem dX5_frame_106 : decode cX5_frame 106 = .ok (.invokespecial 86, 3) := by decide +kernel
theorem dX5_frame_109 : decode cX5_frame 109 = .ok (.athrow, 1) := by decide +kernel
theorem dX5_hook_0 : decode cX5_hook 0 = .ok (.iload_n 1, 1) := by decide +kernel
theorem dX5_hook_1 : decode cX5_hook 1 = .ok (.iconst 0, 1) := by decide +kernel
theorem dX5_hook_2 : decode cX5_hook 2 = .ok (.bipush 11, 2) := by decide +kernel
theorem dX5_hook_4 : decode cX5_hook 4 = .ok (.invokestatic 46, 3) := by decide +kernel
theorem dX5_hook_7 : decode cX5_hook 7 = .ok (.ifCond .ne 13, 3) := by decide +kernel
theorem dX5_hook_10 : decode cX5_hook 10 = .ok (.new 82, 3) := by decide +kernel
theorem dX5_hook_13 : decode cX5_hook 13 = .ok (.dup, 1) := by decide +kernel
theorem dX5_hook_14 : decode cX5_hook 14 = .ok (.ldc 102, 2) := by decide +kernel
theorem dX5_hook_16 : decode cX5_hook 16 = .ok (.invokespecial 86, 3) := by decide +kernel
theorem dX5_hook_19 : decode cX5_hook 19 = .ok (.athrow, 1) := by decide +kernel
theorem dX5_hook_20 : decode cX5_hook 20 = .ok (.aload_n 0, 1) := by decide +kernel
theorem dX5_hook_21 : decode cX5_hook 21 = .ok (.iload_n 1, 1) := by decide +kernel
theorem dX5_hook_22 : decode cX5_hook 22 = .ok (.invokevirtual 104, 3) := by decide +kernel
theorem dX5_hook_25 : decode cX5_hook 25 = .ok (.ireturn, 1) := by decide +kernel
theorem dX5_store_0 : decode cX5_store 0 = .ok (.iload_n 1, 1) := by decide +kernel
theorem dX5_store_1 : decode cX5_store 1 = .ok (.iload_n 2, 1) := by decide +kernel
theorem dX5_store_2 : decode cX5_store 2 = .ok (.invokestatic 183, 3) := by decide +kernel
theorem dX5_store_5 : decode cX5_store 5 = .ok (.ifCond .ne 13, 3) := by decide +kernel
theorem dX5_store_8 : decode cX5_store 8 = .ok (.new 82, 3) := by decide +kernel
theorem dX5_store_11 : decode cX5_store 11 = .ok (.dup, 1) := by decide +kernel
theorem dX5_store_12 : decode cX5_store 12 = .ok (.ldc 187, 2) := by decide +kernel
theorem dX5_store_14 : decode cX5_store 14 = .ok (.invokespecial 86, 3) := by decide +kernel
theorem dX5_store_17 : decode cX5_store 17 = .ok (.athrow, 1) := by decide +kernel
theorem dX5_store_18 : decode cX5_store 18 = .ok (.aload_n 0, 1) := by decide +kernel
theorem dX5_store_19 : decode cX5_store 19 = .ok (.getfield 25, 3) := by decide +kernel
theorem dX5_store_22 : decode cX5_store 22 = .ok (.iload_n 1, 1) := by decide +kernel
theorem dX5_store_23 : decode cX5_store 23 = .ok (.iload_n 2, 1) := by decide +kernel
theorem dX5_store_24 : decode cX5_store 24 = .ok (.invokevirtual 189, 3) := by decide +kernel
theorem dX5_store_27 : decode cX5_store 27 = .ok (.ireturn, 1) := by decide +kernel
theorem dX5_addOrder_0 : decode cX5_addOrder 0 = .ok (.iload_n 1, 1) := by decide +kernel
theorem dX5_addOrder_1 : decode cX5_addOrder 1 = .ok (.iload_n 2, 1) := by decide +kernel
theorem dX5_addOrder_2 : decode cX5_addOrder 2 = .ok (.invokestatic 183, 3) := by decide +kernel
theorem dX5_addOrder_5 : decode cX5_addOrder 5 = .ok (.ifCond .ne 13, 3) := by decide +kernel
theorem dX5_addOrder_8 : decode cX5_addOrder 8 = .ok (.new 50, 3) := by decide +kernel
theorem dX5_addOrder_11 : decode cX5_addOrder 11 = .ok (.dup, 1) := by decide +kernel
theorem dX5_addOrder_12 : decode cX5_addOrder 12 = .ok (.ldc 187, 2) := by decide +kernel
theorem dX5_addOrder_14 : decode cX5_addOrder 14 = .ok (.invokespecial 54, 3) := by decide +kernel
theorem dX5_addOrder_17 : decode cX5_addOrder 17 = .ok (.athrow, 1) := by decide +kernel
theorem dX5_addOrder_18 : decode cX5_addOrder 18 = .ok (.iload_n 3, 1) := by decide +kernel
theorem dX5_addOrder_19 : decode cX5_addOrder 19 = .ok (.iconst 1, 1) := by decide +kernel
theorem dX5_addOrder_20 : decode cX5_addOrder 20 = .ok (.bipush 60, 2) := by decide +kernel
theorem dX5_addOrder_22 : decode cX5_addOrder 22 = .ok (.invokestatic 46, 3) := by decide +kernel
theorem dX5_addOrder_25 : decode cX5_addOrder 25 = .ok (.ifCond .ne 13, 3) := by decide +kernel
theorem dX5_addOrder_28 : decode cX5_addOrder 28 = .ok (.new 50, 3) := by decide +kernel
theorem dX5_addOrder_31 : decode cX5_addOrder 31 = .ok (.dup, 1) := by decide +kernel
theorem dX5_addOrder_32 : decode cX5_addOrder 32 = .ok (.ldc 193, 2) := by decide +kernel
theorem dX5_addOrder_34 : decode cX5_addOrder 34 = .ok (.invokespecial 54, 3) := by decide +kernel
theorem dX5_addOrder_37 : decode cX5_addOrder 37 = .ok (.athrow, 1) := by decide +kernel
theorem dX5_addOrder_38 : decode cX5_addOrder 38 = .ok (.iload 4, 2) := by decide +kernel
theorem dX5_addOrder_40 : decode cX5_addOrder 40 = .ok (.aload_n 0, 1) := by decide +kernel
theorem dX5_addOrder_41 : decode cX5_addOrder 41 = .ok (.getfield 195, 3) := by decide +kernel
theorem dX5_addOrder_44 : decode cX5_addOrder 44 = .ok (.bipush 40, 2) := by decide +kernel
theorem dX5_addOrder_46 : decode cX5_addOrder 46 = .ok (.idiv, 1) := by decide +kernel
theorem dX5_addOrder_47 : decode cX5_addOrder 47 = .ok (.sipush 1000, 3) := by decide +kernel
theorem dX5_addOrder_50 : decode cX5_addOrder 50 = .ok (.invokestatic 46, 3) := by decide +kernel
theorem dX5_addOrder_53 : decode cX5_addOrder 53 = .ok (.ifCond .ne 13, 3) := by decide +kernel
theorem dX5_addOrder_56 : decode cX5_addOrder 56 = .ok (.new 50, 3) := by decide +kernel
theorem dX5_addOrder_59 : decode cX5_addOrder 59 = .ok (.dup, 1) := by decide +kernel
theorem dX5_addOrder_60 : decode cX5_addOrder 60 = .ok (.ldc 198, 2) := by decide +kernel
theorem dX5_addOrder_62 : decode cX5_addOrder 62 = .ok (.invokespecial 54, 3) := by decide +kernel
theorem dX5_addOrder_65 : decode cX5_addOrder 65 = .ok (.athrow, 1) := by decide +kernel
theorem dX5_addOrder_66 : decode cX5_addOrder 66 = .ok (.aload_n 0, 1) := by decide +kernel
theorem dX5_addOrder_67 : decode cX5_addOrder 67 = .ok (.invokevirtual 200, 3) := by decide +kernel
theorem dX5_addOrder_70 : decode cX5_addOrder 70 = .ok (.istore 5, 2) := by decide +kernel
theorem dX5_addOrder_72 : decode cX5_addOrder 72 = .ok (.iload 5, 2) := by decide +kernel
theorem dX5_addOrder_74 : decode cX5_addOrder 74 = .ok (.aload_n 0, 1) := by decide +kernel
theorem dX5_addOrder_75 : decode cX5_addOrder 75 = .ok (.getfield 31, 3) := by decide +kernel
theorem dX5_addOrder_78 : decode cX5_addOrder 78 = .ok (.arraylength, 1) := by decide +kernel
theorem dX5_addOrder_79 : decode cX5_addOrder 79 = .ok (.if_icmp .lt 13, 3) := by decide +kernel
theorem dX5_addOrder_82 : decode cX5_addOrder 82 = .ok (.new 61, 3) := by decide +kernel
theorem dX5_addOrder_85 : decode cX5_addOrder 85 = .ok (.dup, 1) := by decide +kernel
theorem dX5_addOrder_86 : decode cX5_addOrder 86 = .ok (.ldc 203, 2) := by decide +kernel
theorem dX5_addOrder_88 : decode cX5_addOrder 88 = .ok (.invokespecial 65, 3) := by decide +kernel
theorem dX5_addOrder_91 : decode cX5_addOrder 91 = .ok (.athrow, 1) := by decide +kernel
theorem dX5_addOrder_92 : decode cX5_addOrder 92 = .ok (.aload_n 0, 1) := by decide +kernel
theorem dX5_addOrder_93 : decode cX5_addOrder 93 = .ok (.getfield 31, 3) := by decide +kernel
theorem dX5_addOrder_96 : decode cX5_addOrder 96 = .ok (.iload 5, 2) := by decide +kernel
theorem dX5_addOrder_98 : decode cX5_addOrder 98 = .ok (.new 29, 3) := by decide +kernel
theorem dX5_addOrder_101 : decode cX5_addOrder 101 = .ok (.dup, 1) := by decide +kernel
theorem dX5_addOrder_102 : decode cX5_addOrder 102 = .ok (.iload_n 1, 1) := by decide +kernel
theorem dX5_addOrder_103 : decode cX5_addOrder 103 = .ok (.iload_n 2, 1) := by decide +kernel
theorem dX5_addOrder_104 : decode cX5_addOrder 104 = .ok (.iload_n 3, 1) := by decide +kernel
theorem dX5_addOrder_105 : decode cX5_addOrder 105 = .ok (.iload 4, 2) := by decide +kernel
theorem dX5_addOrder_107 : decode cX5_addOrder 107 = .ok (.invokespecial 205, 3) := by decide +kernel
theorem dX5_addOrder_110 : decode cX5_addOrder 110 = .ok (.aastore, 1) := by decide +kernel
theorem dX5_addOrder_111 : decode cX5_addOrder 111 = .ok (.iload 5, 2) := by decide +kernel
theorem dX5_addOrder_113 : decode cX5_addOrder 113 = .ok (.ireturn, 1) := by decide +kernel
theorem dX5_fill_0 : decode cX5_fill 0 = .ok (.aload_n 0, 1) := by decide +kernel
theorem dX5_fill_1 : decode cX5_fill 1 = .ok (.iload_n 1, 1) := by decide +kernel
theorem dX5_fill_2 : decode cX5_fill 2 = .ok (.invokevirtual 208, 3) := by decide +kernel
theorem dX5_fill_5 : decode cX5_fill 5 = .ok (.astore_n 2, 1) := by decide +kernel
theorem dX5_fill_6 : decode cX5_fill 6 = .ok (.aload_n 2, 1) := by decide +kernel
theorem dX5_fill_7 : decode cX5_fill 7 = .ok (.aload_n 0, 1) := by decide +kernel
theorem dX5_fill_8 : decode cX5_fill 8 = .ok (.getfield 25, 3) := by decide +kernel
theorem dX5_fill_11 : decode cX5_fill 11 = .ok (.invokevirtual 212, 3) := by decide +kernel
theorem dX5_fill_14 : decode cX5_fill 14 = .ok (.ifCond .ne 13, 3) := by decide +kernel
theorem dX5_fill_17 : decode cX5_fill 17 = .ok (.new 61, 3) := by decide +kernel
theorem dX5_fill_20 : decode cX5_fill 20 = .ok (.dup, 1) := by decide +kernel
theorem dX5_fill_21 : decode cX5_fill 21 = .ok (.ldc 216, 2) := by decide +kernel
theorem dX5_fill_23 : decode cX5_fill 23 = .ok (.invokespecial 65, 3) := by decide +kernel
theorem dX5_fill_26 : decode cX5_fill 26 = .ok (.athrow, 1) := by decide +kernel
theorem dX5_fill_27 : decode cX5_fill 27 = .ok (.aload_n 0, 1) := by decide +kernel
theorem dX5_fill_28 : decode cX5_fill 28 = .ok (.getfield 25, 3) := by decide +kernel
theorem dX5_fill_31 : decode cX5_fill 31 = .ok (.aload_n 2, 1) := by decide +kernel
theorem dX5_fill_32 : decode cX5_fill 32 = .ok (.getfield 218, 3) := by decide +kernel
theorem dX5_fill_35 : decode cX5_fill 35 = .ok (.aload_n 2, 1) := by decide +kernel
theorem dX5_fill_36 : decode cX5_fill 36 = .ok (.getfield 219, 3) := by decide +kernel
theorem dX5_fill_39 : decode cX5_fill 39 = .ok (.aload_n 2, 1) := by decide +kernel
theorem dX5_fill_40 : decode cX5_fill 40 = .ok (.getfield 222, 3) := by decide +kernel
theorem dX5_fill_43 : decode cX5_fill 43 = .ok (.invokevirtual 225, 3) := by decide +kernel
theorem dX5_fill_46 : decode cX5_fill 46 = .ok (.aload_n 2, 1) := by decide +kernel
theorem dX5_fill_47 : decode cX5_fill 47 = .ok (.iconst 1, 1) := by decide +kernel
theorem dX5_fill_48 : decode cX5_fill 48 = .ok (.putfield 228, 3) := by decide +kernel
theorem dX5_fill_51 : decode cX5_fill 51 = .ok (.aload_n 0, 1) := by decide +kernel
theorem dX5_fill_52 : decode cX5_fill 52 = .ok (.getfield 25, 3) := by decide +kernel
theorem dX5_fill_55 : decode cX5_fill 55 = .ok (.invokevirtual 231, 3) := by decide +kernel
theorem dX5_fill_58 : decode cX5_fill 58 = .ok (.ireturn, 1) := by decide +kernel
theorem dX5_pass_0 : decode cX5_pass 0 = .ok (.iload_n 1, 1) := by decide +kernel
theorem dX5_pass_1 : decode cX5_pass 1 = .ok (.iconst 1, 1) := by decide +kernel
theorem dX5_pass_2 : decode cX5_pass 2 = .ok (.sipush 400, 3) := by decide +kernel
theorem dX5_pass_5 : decode cX5_pass 5 = .ok (.invokestatic 46, 3) := by decide +kernel
theorem dX5_pass_8 : decode cX5_pass 8 = .ok (.ifCond .ne 13, 3) := by decide +kernel
theorem dX5_pass_11 : decode cX5_pass 11 = .ok (.new 50, 3) := by decide +kernel
theorem dX5_pass_14 : decode cX5_pass 14 = .ok (.dup, 1) := by decide +kernel
theorem dX5_pass_15 : decode cX5_pass 15 = .ok (.ldc 239, 2) := by decide +kernel
theorem dX5_pass_17 : decode cX5_pass 17 = .ok (.invokespecial 54, 3) := by decide +kernel
theorem dX5_pass_20 : decode cX5_pass 20 = .ok (.athrow, 1) := by decide +kernel
theorem dX5_pass_21 : decode cX5_pass 21 = .ok (.iconst 0, 1) := by decide +kernel
theorem dX5_pass_22 : decode cX5_pass 22 = .ok (.istore_n 2, 1) := by decide +kernel
theorem dX5_pass_23 : decode cX5_pass 23 = .ok (.iload_n 2, 1) := by decide +kernel
theorem dX5_pass_24 : decode cX5_pass 24 = .ok (.iload_n 1, 1) := by decide +kernel
theorem dX5_pass_25 : decode cX5_pass 25 = .ok (.if_icmp .ge 14, 3) := by decide +kernel
theorem dX5_pass_28 : decode cX5_pass 28 = .ok (.aload_n 0, 1) := by decide +kernel
theorem dX5_pass_29 : decode cX5_pass 29 = .ok (.aconst_null, 1) := by decide +kernel
theorem dX5_pass_30 : decode cX5_pass 30 = .ok (.invokevirtual 131, 3) := by decide +kernel
theorem dX5_pass_33 : decode cX5_pass 33 = .ok (.iinc 2 1, 3) := by decide +kernel
theorem dX5_pass_36 : decode cX5_pass 36 = .ok (.goto (-13), 3) := by decide +kernel
theorem dX5_pass_39 : decode cX5_pass 39 = .ok (.aload_n 0, 1) := by decide +kernel
theorem dX5_pass_40 : decode cX5_pass 40 = .ok (.getfield 10, 3) := by decide +kernel
theorem dX5_pass_43 : decode cX5_pass 43 = .ok (.getfield 70, 3) := by decide +kernel
theorem dX5_pass_46 : decode cX5_pass 46 = .ok (.ireturn, 1) := by decide +kernel
theorem dX5_count_0 : decode cX5_count 0 = .ok (.iload_n 1, 1) := by decide +kernel
theorem dX5_count_1 : decode cX5_count 1 = .ok (.tableswitch 101 0 8 #[51, 56, 61, 66, 74, 79, 85, 91, 96], 51) := by decide +kernel
theorem dX5_count_52 : decode cX5_count 52 = .ok (.aload_n 0, 1) := by decide +kernel
theorem dX5_count_53 : decode cX5_count 53 = .ok (.getfield 195, 3) := by decide +kernel
theorem dX5_count_56 : decode cX5_count 56 = .ok (.ireturn, 1) := by decide +kernel
theorem dX5_count_57 : decode cX5_count 57 = .ok (.aload_n 0, 1) := by decide +kernel
theorem dX5_count_58 : decode cX5_count 58 = .ok (.invokevirtual 89, 3) := by decide +kernel
theorem dX5_count_61 : decode cX5_count 61 = .ok (.ireturn, 1) := by decide +kernel
theorem dX5_count_62 : decode cX5_count 62 = .ok (.aload_n 0, 1) := by decide +kernel
theorem dX5_count_63 : decode cX5_count 63 = .ok (.invokevirtual 241, 3) := by decide +kernel
theorem dX5_count_66 : decode cX5_count 66 = .ok (.ireturn, 1) := by decide +kernel
theorem dX5_count_67 : decode cX5_count 67 = .ok (.aload_n 0, 1) := by decide +kernel
theorem dX5_count_68 : decode cX5_count 68 = .ok (.getfield 25, 3) := by decide +kernel
theorem dX5_count_71 : decode cX5_count 71 = .ok (.invokevirtual 231, 3) := by decide +kernel
theorem dX5_count_74 : decode cX5_count 74 = .ok (.ireturn, 1) := by decide +kernel
theorem dX5_count_75 : decode cX5_count 75 = .ok (.aload_n 0, 1) := by decide +kernel
theorem dX5_count_76 : decode cX5_count 76 = .ok (.invokevirtual 200, 3) := by decide +kernel
theorem dX5_count_79 : decode cX5_count 79 = .ok (.ireturn, 1) := by decide +kernel
theorem dX5_count_80 : decode cX5_count 80 = .ok (.aload_n 0, 1) := by decide +kernel
theorem dX5_count_81 : decode cX5_count 81 = .ok (.iconst 1, 1) := by decide +kernel
theorem dX5_count_82 : decode cX5_count 82 = .ok (.invokevirtual 244, 3) := by decide +kernel
theorem dX5_count_85 : decode cX5_count 85 = .ok (.ireturn, 1) := by decide +kernel
theorem dX5_count_86 : decode cX5_count 86 = .ok (.aload_n 0, 1) := by decide +kernel
theorem dX5_count_87 : decode cX5_count 87 = .ok (.iconst 2, 1) := by decide +kernel
theorem dX5_count_88 : decode cX5_count 88 = .ok (.invokevirtual 244, 3) := by decide +kernel
theorem dX5_count_91 : decode cX5_count 91 = .ok (.ireturn, 1) := by decide +kernel
theorem dX5_count_92 : decode cX5_count 92 = .ok (.aload_n 0, 1) := by decide +kernel
theorem dX5_count_93 : decode cX5_count 93 = .ok (.getfield 128, 3) := by decide +kernel
theorem dX5_count_96 : decode cX5_count 96 = .ok (.ireturn, 1) := by decide +kernel
theorem dX5_count_97 : decode cX5_count 97 = .ok (.aload_n 0, 1) := by decide +kernel
theorem dX5_count_98 : decode cX5_count 98 = .ok (.getfield 149, 3) := by decide +kernel
theorem dX5_count_101 : decode cX5_count 101 = .ok (.ireturn, 1) := by decide +kernel
theorem dX5_count_102 : decode cX5_count 102 = .ok (.new 82, 3) := by decide +kernel
theorem dX5_count_105 : decode cX5_count 105 = .ok (.dup, 1) := by decide +kernel
theorem dX5_count_106 : decode cX5_count 106 = .ok (.ldc 247, 2) := by decide +kernel
theorem dX5_count_108 : decode cX5_count 108 = .ok (.invokespecial 86, 3) := by decide +kernel
theorem dX5_count_111 : decode cX5_count 111 = .ok (.athrow, 1) := by decide +kernel
theorem dX5_would_0 : decode cX5_would 0 = .ok (.aload_n 0, 1) := by decide +kernel
theorem dX5_would_1 : decode cX5_would 1 = .ok (.iload_n 1, 1) := by decide +kernel
theorem dX5_would_2 : decode cX5_would 2 = .ok (.invokevirtual 98, 3) := by decide +kernel
theorem dX5_would_5 : decode cX5_would 5 = .ok (.astore_n 3, 1) := by decide +kernel
theorem dX5_would_6 : decode cX5_would 6 = .ok (.iload_n 2, 1) := by decide +kernel
theorem dX5_would_7 : decode cX5_would 7 = .ok (.iconst 1, 1) := by decide +kernel
theorem dX5_would_8 : decode cX5_would 8 = .ok (.bipush 40, 2) := by decide +kernel
theorem dX5_would_10 : decode cX5_would 10 = .ok (.invokestatic 46, 3) := by decide +kernel
theorem dX5_would_13 : decode cX5_would 13 = .ok (.ifCond .ne 13, 3) := by decide +kernel
theorem dX5_would_16 : decode cX5_would 16 = .ok (.new 50, 3) := by decide +kernel
theorem dX5_would_19 : decode cX5_would 19 = .ok (.dup, 1) := by decide +kernel
theorem dX5_would_20 : decode cX5_would 20 = .ok (.ldc 249, 2) := by decide +kernel
theorem dX5_would_22 : decode cX5_would 22 = .ok (.invokespecial 54, 3) := by decide +kernel
theorem dX5_would_25 : decode cX5_would 25 = .ok (.athrow, 1) := by decide +kernel
theorem dX5_would_26 : decode cX5_would 26 = .ok (.aload_n 3, 1) := by decide +kernel
theorem dX5_would_27 : decode cX5_would 27 = .ok (.invokevirtual 113, 3) := by decide +kernel
theorem dX5_would_30 : decode cX5_would 30 = .ok (.ifCond .ne 13, 3) := by decide +kernel
theorem dX5_would_33 : decode cX5_would 33 = .ok (.new 61, 3) := by decide +kernel
theorem dX5_would_36 : decode cX5_would 36 = .ok (.dup, 1) := by decide +kernel
theorem dX5_would_37 : decode cX5_would 37 = .ok (.ldc 251, 2) := by decide +kernel
theorem dX5_would_39 : decode cX5_would 39 = .ok (.invokespecial 65, 3) := by decide +kernel
theorem dX5_would_42 : decode cX5_would 42 = .ok (.athrow, 1) := by decide +kernel
theorem dX5_would_43 : decode cX5_would 43 = .ok (.aload_n 0, 1) := by decide +kernel
theorem dX5_would_44 : decode cX5_would 44 = .ok (.getfield 38, 3) := by decide +kernel
theorem dX5_would_47 : decode cX5_would 47 = .ok (.aload_n 3, 1) := by decide +kernel
theorem dX5_would_48 : decode cX5_would 48 = .ok (.aload_n 0, 1) := by decide +kernel
theorem dX5_would_49 : decode cX5_would 49 = .ok (.getfield 10, 3) := by decide +kernel
theorem dX5_would_52 : decode cX5_would 52 = .ok (.iload_n 2, 1) := by decide +kernel
theorem dX5_would_53 : decode cX5_would 53 = .ok (.invokevirtual 253, 3) := by decide +kernel
theorem dX5_would_56 : decode cX5_would 56 = .ok (.ireturn, 1) := by decide +kernel
theorem dX5_advise_0 : decode cX5_advise 0 = .ok (.iconst (-1), 1) := by decide +kernel
theorem dX5_advise_1 : decode cX5_advise 1 = .ok (.istore_n 1, 1) := by decide +kernel
theorem dX5_advise_2 : decode cX5_advise 2 = .ok (.iconst 0, 1) := by decide +kernel
theorem dX5_advise_3 : decode cX5_advise 3 = .ok (.istore_n 2, 1) := by decide +kernel
theorem dX5_advise_4 : decode cX5_advise 4 = .ok (.iconst 0, 1) := by decide +kernel
theorem dX5_advise_5 : decode cX5_advise 5 = .ok (.istore_n 3, 1) := by decide +kernel
theorem dX5_advise_6 : decode cX5_advise 6 = .ok (.iload_n 3, 1) := by decide +kernel
theorem dX5_advise_7 : decode cX5_advise 7 = .ok (.aload_n 0, 1) := by decide +kernel
theorem dX5_advise_8 : decode cX5_advise 8 = .ok (.getfield 18, 3) := by decide +kernel
theorem dX5_advise_11 : decode cX5_advise 11 = .ok (.arraylength, 1) := by decide +kernel
theorem dX5_advise_12 : decode cX5_advise 12 = .ok (.if_icmp .ge 65, 3) := by decide +kernel
theorem dX5_advise_15 : decode cX5_advise 15 = .ok (.aload_n 0, 1) := by decide +kernel
theorem dX5_advise_16 : decode cX5_advise 16 = .ok (.getfield 18, 3) := by decide +kernel
theorem dX5_advise_19 : decode cX5_advise 19 = .ok (.iload_n 3, 1) := by decide +kernel
theorem dX5_advise_20 : decode cX5_advise 20 = .ok (.aaload, 1) := by decide +kernel
theorem dX5_advise_21 : decode cX5_advise 21 = .ok (.astore 4, 2) := by decide +kernel
theorem dX5_advise_23 : decode cX5_advise 23 = .ok (.aload 4, 2) := by decide +kernel
theorem dX5_advise_25 : decode cX5_advise 25 = .ok (.ifnull 46, 3) := by decide +kernel
theorem dX5_advise_28 : decode cX5_advise 28 = .ok (.aload 4, 2) := by decide +kernel
theorem dX5_advise_30 : decode cX5_advise 30 = .ok (.aload_n 0, 1) := by decide +kernel
theorem dX5_advise_31 : decode cX5_advise 31 = .ok (.getfield 10, 3) := by decide +kernel
theorem dX5_advise_34 : decode cX5_advise 34 = .ok (.invokevirtual 118, 3) := by decide +kernel
theorem dX5_advise_37 : decode cX5_advise 37 = .ok (.ifCond .eq 34, 3) := by decide +kernel
theorem dX5_advise_40 : decode cX5_advise 40 = .ok (.aload 4, 2) := by decide +kernel
theorem dX5_advise_42 : decode cX5_advise 42 = .ok (.aload_n 0, 1) := by decide +kernel
theorem dX5_advise_43 : decode cX5_advise 43 = .ok (.getfield 10, 3) := by decide +kernel
theorem dX5_advise_46 : decode cX5_advise 46 = .ok (.getfield 70, 3) := by decide +kernel
theorem dX5_advise_49 : decode cX5_advise 49 = .ok (.invokevirtual 268, 3) := by decide +kernel
theorem dX5_advise_52 : decode cX5_advise 52 = .ok (.iload_n 2, 1) := by decide +kernel
theorem dX5_advise_53 : decode cX5_advise 53 = .ok (.if_icmp .le 18, 3) := by decide +kernel
theorem dX5_advise_56 : decode cX5_advise 56 = .ok (.iload_n 3, 1) := by decide +kernel
theorem dX5_advise_57 : decode cX5_advise 57 = .ok (.istore_n 1, 1) := by decide +kernel
theorem dX5_advise_58 : decode cX5_advise 58 = .ok (.aload 4, 2) := by decide +kernel
theorem dX5_advise_60 : decode cX5_advise 60 = .ok (.aload_n 0, 1) := by decide +kernel
theorem dX5_advise_61 : decode cX5_advise 61 = .ok (.getfield 10, 3) := by decide +kernel
theorem dX5_advise_64 : decode cX5_advise 64 = .ok (.getfield 70, 3) := by decide +kernel
theorem dX5_advise_67 : decode cX5_advise 67 = .ok (.invokevirtual 268, 3) := by decide +kernel
theorem dX5_advise_70 : decode cX5_advise 70 = .ok (.istore_n 2, 1) := by decide +kernel
theorem dX5_advise_71 : decode cX5_advise 71 = .ok (.iinc 3 1, 3) := by decide +kernel
theorem dX5_advise_74 : decode cX5_advise 74 = .ok (.goto (-68), 3) := by decide +kernel
theorem dX5_advise_77 : decode cX5_advise 77 = .ok (.iload_n 1, 1) := by decide +kernel
theorem dX5_advise_78 : decode cX5_advise 78 = .ok (.ireturn, 1) := by decide +kernel
theorem dX5_possible_0 : decode cX5_possible 0 = .ok (.iconst 0, 1) := by decide +kernel
theorem dX5_possible_1 : decode cX5_possible 1 = .ok (.istore_n 1, 1) := by decide +kernel
theorem dX5_possible_2 : decode cX5_possible 2 = .ok (.iconst 0, 1) := by decide +kernel
theorem dX5_possible_3 : decode cX5_possible 3 = .ok (.istore_n 2, 1) := by decide +kernel
theorem dX5_possible_4 : decode cX5_possible 4 = .ok (.iload_n 2, 1) := by decide +kernel
theorem dX5_possible_5 : decode cX5_possible 5 = .ok (.iconst 4, 1) := by decide +kernel
theorem dX5_possible_6 : decode cX5_possible 6 = .ok (.if_icmp .ge 17, 3) := by decide +kernel
theorem dX5_possible_9 : decode cX5_possible 9 = .ok (.iload_n 1, 1) := by decide +kernel
theorem dX5_possible_10 : decode cX5_possible 10 = .ok (.aload_n 0, 1) := by decide +kernel
theorem dX5_possible_11 : decode cX5_possible 11 = .ok (.iload_n 2, 1) := by decide +kernel
theorem dX5_possible_12 : decode cX5_possible 12 = .ok (.invokevirtual 271, 3) := by decide +kernel
theorem dX5_possible_15 : decode cX5_possible 15 = .ok (.iadd, 1) := by decide +kernel
theorem dX5_possible_16 : decode cX5_possible 16 = .ok (.istore_n 1, 1) := by decide +kernel
theorem dX5_possible_17 : decode cX5_possible 17 = .ok (.iinc 2 1, 3) := by decide +kernel
theorem dX5_possible_20 : decode cX5_possible 20 = .ok (.goto (-16), 3) := by decide +kernel
theorem dX5_possible_23 : decode cX5_possible 23 = .ok (.iload_n 1, 1) := by decide +kernel
theorem dX5_possible_24 : decode cX5_possible 24 = .ok (.ireturn, 1) := by decide +kernel
theorem dX5_within_0 : decode cX5_within 0 = .ok (.iload_n 0, 1) := by decide +kernel
theorem dX5_within_1 : decode cX5_within 1 = .ok (.iload_n 1, 1) := by decide +kernel
theorem dX5_within_2 : decode cX5_within 2 = .ok (.if_icmp .lt 12, 3) := by decide +kernel
theorem dX5_within_5 : decode cX5_within 5 = .ok (.iload_n 0, 1) := by decide +kernel
theorem dX5_within_6 : decode cX5_within 6 = .ok (.iload_n 2, 1) := by decide +kernel
theorem dX5_within_7 : decode cX5_within 7 = .ok (.if_icmp .gt 7, 3) := by decide +kernel
theorem dX5_within_10 : decode cX5_within 10 = .ok (.iconst 1, 1) := by decide +kernel
theorem dX5_within_11 : decode cX5_within 11 = .ok (.goto 4, 3) := by decide +kernel
theorem dX5_within_14 : decode cX5_within 14 = .ok (.iconst 0, 1) := by decide +kernel
theorem dX5_within_15 : decode cX5_within 15 = .ok (.ireturn, 1) := by decide +kernel
theorem dX5_frameAt_0 : decode cX5_frameAt 0 = .ok (.iload_n 1, 1) := by decide +kernel
theorem dX5_frameAt_1 : decode cX5_frameAt 1 = .ok (.ifCond .lt 21, 3) := by decide +kernel
theorem dX5_frameAt_4 : decode cX5_frameAt 4 = .ok (.iload_n 1, 1) := by decide +kernel
theorem dX5_frameAt_5 : decode cX5_frameAt 5 = .ok (.aload_n 0, 1) := by decide +kernel
theorem dX5_frameAt_6 : decode cX5_frameAt 6 = .ok (.getfield 18, 3) := by decide +kernel
theorem dX5_frameAt_9 : decode cX5_frameAt 9 = .ok (.arraylength, 1) := by decide +kernel
theorem dX5_frameAt_10 : decode cX5_frameAt 10 = .ok (.if_icmp .ge 12, 3) := by decide +kernel
theorem dX5_frameAt_13 : decode cX5_frameAt 13 = .ok (.aload_n 0, 1) := by decide +kernel
theorem dX5_frameAt_14 : decode cX5_frameAt 14 = .ok (.getfield 18, 3) := by decide +kernel
theorem dX5_frameAt_17 : decode cX5_frameAt 17 = .ok (.iload_n 1, 1) := by decide +kernel
theorem dX5_frameAt_18 : decode cX5_frameAt 18 = .ok (.aaload, 1) := by decide +kernel
theorem dX5_frameAt_19 : decode cX5_frameAt 19 = .ok (.ifnonnull 14, 3) := by decide +kernel
theorem dX5_frameAt_22 : decode cX5_frameAt 22 = .ok (.new 82, 3) := by decide +kernel
theorem dX5_frameAt_25 : decode cX5_frameAt 25 = .ok (.dup, 1) := by decide +kernel
theorem dX5_frameAt_26 : decode cX5_frameAt 26 = .ok (.ldc_w 291, 3) := by decide +kernel
theorem dX5_frameAt_29 : decode cX5_frameAt 29 = .ok (.invokespecial 86, 3) := by decide +kernel
theorem dX5_frameAt_32 : decode cX5_frameAt 32 = .ok (.athrow, 1) := by decide +kernel
theorem dX5_frameAt_33 : decode cX5_frameAt 33 = .ok (.aload_n 0, 1) := by decide +kernel
theorem dX5_frameAt_34 : decode cX5_frameAt 34 = .ok (.getfield 18, 3) := by decide +kernel
theorem dX5_frameAt_37 : decode cX5_frameAt 37 = .ok (.iload_n 1, 1) := by decide +kernel
theorem dX5_frameAt_38 : decode cX5_frameAt 38 = .ok (.aaload, 1) := by decide +kernel
theorem dX5_frameAt_39 : decode cX5_frameAt 39 = .ok (.areturn, 1) := by decide +kernel
theorem dX5_orderAt_0 : decode cX5_orderAt 0 = .ok (.iload_n 1, 1) := by decide +kernel
theorem dX5_orderAt_1 : decode cX5_orderAt 1 = .ok (.ifCond .lt 21, 3) := by decide +kernel
theorem dX5_orderAt_4 : decode cX5_orderAt 4 = .ok (.iload_n 1, 1) := by decide +kernel
theorem dX5_orderAt_5 : decode cX5_orderAt 5 = .ok (.aload_n 0, 1) := by decide +kernel
theorem dX5_orderAt_6 : decode cX5_orderAt 6 = .ok (.getfield 31, 3) := by decide +kernel
theorem dX5_orderAt_9 : decode cX5_orderAt 9 = .ok (.arraylength, 1) := by decide +kernel
theorem dX5_orderAt_10 : decode cX5_orderAt 10 = .ok (.if_icmp .ge 12, 3) := by decide +kernel
theorem dX5_orderAt_13 : decode cX5_orderAt 13 = .ok (.aload_n 0, 1) := by decide +kernel
theorem dX5_orderAt_14 : decode cX5_orderAt 14 = .ok (.getfield 31, 3) := by decide +kernel
theorem dX5_orderAt_17 : decode cX5_orderAt 17 = .ok (.iload_n 1, 1) := by decide +kernel
theorem dX5_orderAt_18 : decode cX5_orderAt 18 = .ok (.aaload, 1) := by decide +kernel
theorem dX5_orderAt_19 : decode cX5_orderAt 19 = .ok (.ifnonnull 14, 3) := by decide +kernel
theorem dX5_orderAt_22 : decode cX5_orderAt 22 = .ok (.new 82, 3) := by decide +kernel
theorem dX5_orderAt_25 : decode cX5_orderAt 25 = .ok (.dup, 1) := by decide +kernel
theorem dX5_orderAt_26 : decode cX5_orderAt 26 = .ok (.ldc_w 293, 3) := by decide +kernel
theorem dX5_orderAt_29 : decode cX5_orderAt 29 = .ok (.invokespecial 86, 3) := by decide +kernel
theorem dX5_orderAt_32 : decode cX5_orderAt 32 = .ok (.athrow, 1) := by decide +kernel
theorem dX5_orderAt_33 : decode cX5_orderAt 33 = .ok (.aload_n 0, 1) := by decide +kernel
theorem dX5_orderAt_34 : decode cX5_orderAt 34 = .ok (.getfield 31, 3) := by decide +kernel
theorem dX5_orderAt_37 : decode cX5_orderAt 37 = .ok (.iload_n 1, 1) := by decide +kernel
theorem dX5_orderAt_38 : decode cX5_orderAt 38 = .ok (.aaload, 1) := by decide +kernel
theorem dX5_orderAt_39 : decode cX5_orderAt 39 = .ok (.areturn, 1) := by decide +kernel
theorem dX5_frameOn_0 : decode cX5_frameOn 0 = .ok (.iconst 0, 1) := by decide +kernel
theorem dX5_frameOn_1 : decode cX5_frameOn 1 = .ok (.istore_n 2, 1) := by decide +kernel
theorem dX5_frameOn_2 : decode cX5_frameOn 2 = .ok (.iload_n 2, 1) := by decide +kernel
theorem dX5_frameOn_3 : decode cX5_frameOn 3 = .ok (.aload_n 0, 1) := by decide +kernel
theorem dX5_frameOn_4 : decode cX5_frameOn 4 = .ok (.getfield 18, 3) := by decide +kernel
theorem dX5_frameOn_7 : decode cX5_frameOn 7 = .ok (.arraylength, 1) := by decide +kernel
theorem dX5_frameOn_8 : decode cX5_frameOn 8 = .ok (.if_icmp .ge 33, 3) := by decide +kernel
theorem dX5_frameOn_11 : decode cX5_frameOn 11 = .ok (.aload_n 0, 1) := by decide +kernel
theorem dX5_frameOn_12 : decode cX5_frameOn 12 = .ok (.getfield 18, 3) := by decide +kernel
theorem dX5_frameOn_15 : decode cX5_frameOn 15 = .ok (.iload_n 2, 1) := by decide +kernel
theorem dX5_frameOn_16 : decode cX5_frameOn 16 = .ok (.aaload, 1) := by decide +kernel
theorem dX5_frameOn_17 : decode cX5_frameOn 17 = .ok (.ifnull 18, 3) := by decide +kernel
theorem dX5_frameOn_20 : decode cX5_frameOn 20 = .ok (.aload_n 0, 1) := by decide +kernel
theorem dX5_frameOn_21 : decode cX5_frameOn 21 = .ok (.getfield 18, 3) := by decide +kernel
theorem dX5_frameOn_24 : decode cX5_frameOn 24 = .ok (.iload_n 2, 1) := by decide +kernel
theorem dX5_frameOn_25 : decode cX5_frameOn 25 = .ok (.aaload, 1) := by decide +kernel
theorem dX5_frameOn_26 : decode cX5_frameOn 26 = .ok (.getfield 110, 3) := by decide +kernel
theorem dX5_frameOn_29 : decode cX5_frameOn 29 = .ok (.iload_n 1, 1) := by decide +kernel
theorem dX5_frameOn_30 : decode cX5_frameOn 30 = .ok (.if_icmp .ne 5, 3) := by decide +kernel
theorem dX5_frameOn_33 : decode cX5_frameOn 33 = .ok (.iload_n 2, 1) := by decide +kernel
theorem dX5_frameOn_34 : decode cX5_frameOn 34 = .ok (.ireturn, 1) := by decide +kernel
theorem dX5_frameOn_35 : decode cX5_frameOn 35 = .ok (.iinc 2 1, 3) := by decide +kernel
theorem dX5_frameOn_38 : decode cX5_frameOn 38 = .ok (.goto (-36), 3) := by decide +kernel
theorem dX5_frameOn_41 : decode cX5_frameOn 41 = .ok (.iconst (-1), 1) := by decide +kernel
theorem dX5_frameOn_42 : decode cX5_frameOn 42 = .ok (.ireturn, 1) := by decide +kernel
theorem dX5_framesMade_0 : decode cX5_framesMade 0 = .ok (.iconst 0, 1) := by decide +kernel
theorem dX5_framesMade_1 : decode cX5_framesMade 1 = .ok (.istore_n 1, 1) := by decide +kernel
theorem dX5_framesMade_2 : decode cX5_framesMade 2 = .ok (.aload_n 0, 1) := by decide +kernel
theorem dX5_framesMade_3 : decode cX5_framesMade 3 = .ok (.getfield 18, 3) := by decide +kernel
theorem dX5_framesMade_6 : decode cX5_framesMade 6 = .ok (.astore_n 2, 1) := by decide +kernel
theorem dX5_framesMade_7 : decode cX5_framesMade 7 = .ok (.aload_n 2, 1) := by decide +kernel
theorem dX5_framesMade_8 : decode cX5_framesMade 8 = .ok (.arraylength, 1) := by decide +kernel
theorem dX5_framesMade_9 : decode cX5_framesMade 9 = .ok (.istore_n 3, 1) := by decide +kernel
theorem dX5_framesMade_10 : decode cX5_framesMade 10 = .ok (.iconst 0, 1) := by decide +kernel
theorem dX5_framesMade_11 : decode cX5_framesMade 11 = .ok (.istore 4, 2) := by decide +kernel
theorem dX5_framesMade_13 : decode cX5_framesMade 13 = .ok (.iload 4, 2) := by decide +kernel
theorem dX5_framesMade_15 : decode cX5_framesMade 15 = .ok (.iload_n 3, 1) := by decide +kernel
theorem dX5_framesMade_16 : decode cX5_framesMade 16 = .ok (.if_icmp .ge 23, 3) := by decide +kernel
theorem dX5_framesMade_19 : decode cX5_framesMade 19 = .ok (.aload_n 2, 1) := by decide +kernel
theorem dX5_framesMade_20 : decode cX5_framesMade 20 = .ok (.iload 4, 2) := by decide +kernel
theorem dX5_framesMade_22 : decode cX5_framesMade 22 = .ok (.aaload, 1) := by decide +kernel
theorem dX5_framesMade_23 : decode cX5_framesMade 23 = .ok (.astore 5, 2) := by decide +kernel
theorem dX5_framesMade_25 : decode cX5_framesMade 25 = .ok (.aload 5, 2) := by decide +kernel
theorem dX5_framesMade_27 : decode cX5_framesMade 27 = .ok (.ifnull 6, 3) := by decide +kernel
theorem dX5_framesMade_30 : decode cX5_framesMade 30 = .ok (.iinc 1 1, 3) := by decide +kernel
theorem dX5_framesMade_33 : decode cX5_framesMade 33 = .ok (.iinc 4 1, 3) := by decide +kernel
theorem dX5_framesMade_36 : decode cX5_framesMade 36 = .ok (.goto (-23), 3) := by decide +kernel
theorem dX5_framesMade_39 : decode cX5_framesMade 39 = .ok (.iload_n 1, 1) := by decide +kernel
theorem dX5_framesMade_40 : decode cX5_framesMade 40 = .ok (.ireturn, 1) := by decide +kernel
theorem dX5_framesHanging_0 : decode cX5_framesHanging 0 = .ok (.iconst 0, 1) := by decide +kernel
theorem dX5_framesHanging_1 : decode cX5_framesHanging 1 = .ok (.istore_n 1, 1) := by decide +kernel
theorem dX5_framesHanging_2 : decode cX5_framesHanging 2 = .ok (.aload_n 0, 1) := by decide +kernel
theorem dX5_framesHanging_3 : decode cX5_framesHanging 3 = .ok (.getfield 18, 3) := by decide +kernel
theorem dX5_framesHanging_6 : decode cX5_framesHanging 6 = .ok (.astore_n 2, 1) := by decide +kernel
theorem dX5_framesHanging_7 : decode cX5_framesHanging 7 = .ok (.aload_n 2, 1) := by decide +kernel
theorem dX5_framesHanging_8 : decode cX5_framesHanging 8 = .ok (.arraylength, 1) := by decide +kernel
theorem dX5_framesHanging_9 : decode cX5_framesHanging 9 = .ok (.istore_n 3, 1) := by decide +kernel
theorem dX5_framesHanging_10 : decode cX5_framesHanging 10 = .ok (.iconst 0, 1) := by decide +kernel
theorem dX5_framesHanging_11 : decode cX5_framesHanging 11 = .ok (.istore 4, 2) := by decide +kernel
theorem dX5_framesHanging_13 : decode cX5_framesHanging 13 = .ok (.iload 4, 2) := by decide +kernel
theorem dX5_framesHanging_15 : decode cX5_framesHanging 15 = .ok (.iload_n 3, 1) := by decide +kernel
theorem dX5_framesHanging_16 : decode cX5_framesHanging 16 = .ok (.if_icmp .ge 31, 3) := by decide +kernel
theorem dX5_framesHanging_19 : decode cX5_framesHanging 19 = .ok (.aload_n 2, 1) := by decide +kernel
theorem dX5_framesHanging_20 : decode cX5_framesHanging 20 = .ok (.iload 4, 2) := by decide +kernel
theorem dX5_framesHanging_22 : decode cX5_framesHanging 22 = .ok (.aaload, 1) := by decide +kernel
theorem dX5_framesHanging_23 : decode cX5_framesHanging 23 = .ok (.astore 5, 2) := by decide +kernel
theorem dX5_framesHanging_25 : decode cX5_framesHanging 25 = .ok (.aload 5, 2) := by decide +kernel
theorem dX5_framesHanging_27 : decode cX5_framesHanging 27 = .ok (.ifnull 14, 3) := by decide +kernel
theorem dX5_framesHanging_30 : decode cX5_framesHanging 30 = .ok (.aload 5, 2) := by decide +kernel
theorem dX5_framesHanging_32 : decode cX5_framesHanging 32 = .ok (.invokevirtual 113, 3) := by decide +kernel
theorem dX5_framesHanging_35 : decode cX5_framesHanging 35 = .ok (.ifCond .eq 6, 3) := by decide +kernel
theorem dX5_framesHanging_38 : decode cX5_framesHanging 38 = .ok (.iinc 1 1, 3) := by decide +kernel
theorem dX5_framesHanging_41 : decode cX5_framesHanging 41 = .ok (.iinc 4 1, 3) := by decide +kernel
theorem dX5_framesHanging_44 : decode cX5_framesHanging 44 = .ok (.goto (-31), 3) := by decide +kernel
theorem dX5_framesHanging_47 : decode cX5_framesHanging 47 = .ok (.iload_n 1, 1) := by decide +kernel
theorem dX5_framesHanging_48 : decode cX5_framesHanging 48 = .ok (.ireturn, 1) := by decide +kernel
theorem dX5_ordersTaken_0 : decode cX5_ordersTaken 0 = .ok (.iconst 0, 1) := by decide +kernel
theorem dX5_ordersTaken_1 : decode cX5_ordersTaken 1 = .ok (.istore_n 1, 1) := by decide +kernel
theorem dX5_ordersTaken_2 : decode cX5_ordersTaken 2 = .ok (.aload_n 0, 1) := by decide +kernel
theorem dX5_ordersTaken_3 : decode cX5_ordersTaken 3 = .ok (.getfield 31, 3) := by decide +kernel
theorem dX5_ordersTaken_6 : decode cX5_ordersTaken 6 = .ok (.astore_n 2, 1) := by decide +kernel
theorem dX5_ordersTaken_7 : decode cX5_ordersTaken 7 = .ok (.aload_n 2, 1) := by decide +kernel
theorem dX5_ordersTaken_8 : decode cX5_ordersTaken 8 = .ok (.arraylength, 1) := by decide +kernel
theorem dX5_ordersTaken_9 : decode cX5_ordersTaken 9 = .ok (.istore_n 3, 1) := by decide +kernel
theorem dX5_ordersTaken_10 : decode cX5_ordersTaken 10 = .ok (.iconst 0, 1) := by decide +kernel
theorem dX5_ordersTaken_11 : decode cX5_ordersTaken 11 = .ok (.istore 4, 2) := by decide +kernel
theorem dX5_ordersTaken_13 : decode cX5_ordersTaken 13 = .ok (.iload 4, 2) := by decide +kernel
theorem dX5_ordersTaken_15 : decode cX5_ordersTaken 15 = .ok (.iload_n 3, 1) := by decide +kernel
theorem dX5_ordersTaken_16 : decode cX5_ordersTaken 16 = .ok (.if_icmp .ge 23, 3) := by decide +kernel
theorem dX5_ordersTaken_19 : decode cX5_ordersTaken 19 = .ok (.aload_n 2, 1) := by decide +kernel
theorem dX5_ordersTaken_20 : decode cX5_ordersTaken 20 = .ok (.iload 4, 2) := by decide +kernel
theorem dX5_ordersTaken_22 : decode cX5_ordersTaken 22 = .ok (.aaload, 1) := by decide +kernel
theorem dX5_ordersTaken_23 : decode cX5_ordersTaken 23 = .ok (.astore 5, 2) := by decide +kernel
theorem dX5_ordersTaken_25 : decode cX5_ordersTaken 25 = .ok (.aload 5, 2) := by decide +kernel
theorem dX5_ordersTaken_27 : decode cX5_ordersTaken 27 = .ok (.ifnull 6, 3) := by decide +kernel
theorem dX5_ordersTaken_30 : decode cX5_ordersTaken 30 = .ok (.iinc 1 1, 3) := by decide +kernel
theorem dX5_ordersTaken_33 : decode cX5_ordersTaken 33 = .ok (.iinc 4 1, 3) := by decide +kernel
theorem dX5_ordersTaken_36 : decode cX5_ordersTaken 36 = .ok (.goto (-23), 3) := by decide +kernel
theorem dX5_ordersTaken_39 : decode cX5_ordersTaken 39 = .ok (.iload_n 1, 1) := by decide +kernel
theorem dX5_ordersTaken_40 : decode cX5_ordersTaken 40 = .ok (.ireturn, 1) := by decide +kernel
theorem dX5_ordersInState_0 : decode cX5_ordersInState 0 = .ok (.iconst 0, 1) := by decide +kernel
theorem dX5_ordersInState_1 : decode cX5_ordersInState 1 = .ok (.istore_n 2, 1) := by decide +kernel
theorem dX5_ordersInState_2 : decode cX5_ordersInState 2 = .ok (.aload_n 0, 1) := by decide +kernel
theorem dX5_ordersInState_3 : decode cX5_ordersInState 3 = .ok (.getfield 31, 3) := by decide +kernel
theorem dX5_ordersInState_6 : decode cX5_ordersInState 6 = .ok (.astore_n 3, 1) := by decide +kernel
theorem dX5_ordersInState_7 : decode cX5_ordersInState 7 = .ok (.aload_n 3, 1) := by decide +kernel
theorem dX5_ordersInState_8 : decode cX5_ordersInState 8 = .ok (.arraylength, 1) := by decide +kernel
theorem dX5_ordersInState_9 : decode cX5_ordersInState 9 = .ok (.istore 4, 2) := by decide +kernel
theorem dX5_ordersInState_11 : decode cX5_ordersInState 11 = .ok (.iconst 0, 1) := by decide +kernel
theorem dX5_ordersInState_12 : decode cX5_ordersInState 12 = .ok (.istore 5, 2) := by decide +kernel
theorem dX5_ordersInState_14 : decode cX5_ordersInState 14 = .ok (.iload 5, 2) := by decide +kernel
theorem dX5_ordersInState_16 : decode cX5_ordersInState 16 = .ok (.iload 4, 2) := by decide +kernel
theorem dX5_ordersInState_18 : decode cX5_ordersInState 18 = .ok (.if_icmp .ge 32, 3) := by decide +kernel
theorem dX5_ordersInState_21 : decode cX5_ordersInState 21 = .ok (.aload_n 3, 1) := by decide +kernel
theorem dX5_ordersInState_22 : decode cX5_ordersInState 22 = .ok (.iload 5, 2) := by decide +kernel
theorem dX5_ordersInState_24 : decode cX5_ordersInState 24 = .ok (.aaload, 1) := by decide +kernel
theorem dX5_ordersInState_25 : decode cX5_ordersInState 25 = .ok (.astore 6, 2) := by decide +kernel
theorem dX5_ordersInState_27 : decode cX5_ordersInState 27 = .ok (.aload 6, 2) := by decide +kernel
theorem dX5_ordersInState_29 : decode cX5_ordersInState 29 = .ok (.ifnull 15, 3) := by decide +kernel
theorem dX5_ordersInState_32 : decode cX5_ordersInState 32 = .ok (.aload 6, 2) := by decide +kernel
theorem dX5_ordersInState_34 : decode cX5_ordersInState 34 = .ok (.getfield 228, 3) := by decide +kernel
theorem dX5_ordersInState_37 : decode cX5_ordersInState 37 = .ok (.iload_n 1, 1) := by decide +kernel
theorem dX5_ordersInState_38 : decode cX5_ordersInState 38 = .ok (.if_icmp .ne 6, 3) := by decide +kernel
theorem dX5_ordersInState_41 : decode cX5_ordersInState 41 = .ok (.iinc 2 1, 3) := by decide +kernel
theorem dX5_ordersInState_44 : decode cX5_ordersInState 44 = .ok (.iinc 5 1, 3) := by decide +kernel
theorem dX5_ordersInState_47 : decode cX5_ordersInState 47 = .ok (.goto (-33), 3) := by decide +kernel
theorem dX5_ordersInState_50 : decode cX5_ordersInState 50 = .ok (.iload_n 2, 1) := by decide +kernel
theorem dX5_ordersInState_51 : decode cX5_ordersInState 51 = .ok (.ireturn, 1) := by decide +kernel
theorem dX5_letQuarterGo_0 : decode cX5_letQuarterGo 0 = .ok (.aload_n 0, 1) := by decide +kernel
theorem dX5_letQuarterGo_1 : decode cX5_letQuarterGo 1 = .ok (.getfield 10, 3) := by decide +kernel
theorem dX5_letQuarterGo_4 : decode cX5_letQuarterGo 4 = .ok (.invokevirtual 295, 3) := by decide +kernel
theorem dX5_letQuarterGo_7 : decode cX5_letQuarterGo 7 = .ok (.aload_n 0, 1) := by decide +kernel
theorem dX5_letQuarterGo_8 : decode cX5_letQuarterGo 8 = .ok (.getfield 18, 3) := by decide +kernel
theorem dX5_letQuarterGo_11 : decode cX5_letQuarterGo 11 = .ok (.astore_n 2, 1) := by decide +kernel
theorem dX5_letQuarterGo_12 : decode cX5_letQuarterGo 12 = .ok (.aload_n 2, 1) := by decide +kernel
theorem dX5_letQuarterGo_13 : decode cX5_letQuarterGo 13 = .ok (.arraylength, 1) := by decide +kernel
theorem dX5_letQuarterGo_14 : decode cX5_letQuarterGo 14 = .ok (.istore_n 3, 1) := by decide +kernel
theorem dX5_letQuarterGo_15 : decode cX5_letQuarterGo 15 = .ok (.iconst 0, 1) := by decide +kernel
theorem dX5_letQuarterGo_16 : decode cX5_letQuarterGo 16 = .ok (.istore 4, 2) := by decide +kernel
theorem dX5_letQuarterGo_18 : decode cX5_letQuarterGo 18 = .ok (.iload 4, 2) := by decide +kernel
theorem dX5_letQuarterGo_20 : decode cX5_letQuarterGo 20 = .ok (.iload_n 3, 1) := by decide +kernel
theorem dX5_letQuarterGo_21 : decode cX5_letQuarterGo 21 = .ok (.if_icmp .ge 31, 3) := by decide +kernel
theorem dX5_letQuarterGo_24 : decode cX5_letQuarterGo 24 = .ok (.aload_n 2, 1) := by decide +kernel
theorem dX5_letQuarterGo_25 : decode cX5_letQuarterGo 25 = .ok (.iload 4, 2) := by decide +kernel
theorem dX5_letQuarterGo_27 : decode cX5_letQuarterGo 27 = .ok (.aaload, 1) := by decide +kernel
theorem dX5_letQuarterGo_28 : decode cX5_letQuarterGo 28 = .ok (.astore 5, 2) := by decide +kernel
theorem dX5_letQuarterGo_30 : decode cX5_letQuarterGo 30 = .ok (.aload 5, 2) := by decide +kernel
theorem dX5_letQuarterGo_32 : decode cX5_letQuarterGo 32 = .ok (.ifnull 14, 3) := by decide +kernel
theorem dX5_letQuarterGo_35 : decode cX5_letQuarterGo 35 = .ok (.aload 5, 2) := by decide +kernel
theorem dX5_letQuarterGo_37 : decode cX5_letQuarterGo 37 = .ok (.aload_n 1, 1) := by decide +kernel
theorem dX5_letQuarterGo_38 : decode cX5_letQuarterGo 38 = .ok (.if_acmp .eq 8, 3) := by decide +kernel
theorem dX5_letQuarterGo_41 : decode cX5_letQuarterGo 41 = .ok (.aload 5, 2) := by decide +kernel
theorem dX5_letQuarterGo_43 : decode cX5_letQuarterGo 43 = .ok (.invokevirtual 298, 3) := by decide +kernel
theorem dX5_letQuarterGo_46 : decode cX5_letQuarterGo 46 = .ok (.iinc 4 1, 3) := by decide +kernel
theorem dX5_letQuarterGo_49 : decode cX5_letQuarterGo 49 = .ok (.goto (-31), 3) := by decide +kernel
theorem dX5_letQuarterGo_52 : decode cX5_letQuarterGo 52 = .ok (.aload_n 0, 1) := by decide +kernel
theorem dX5_letQuarterGo_53 : decode cX5_letQuarterGo 53 = .ok (.dup, 1) := by decide +kernel
theorem dX5_letQuarterGo_54 : decode cX5_letQuarterGo 54 = .ok (.getfield 195, 3) := by decide +kernel
theorem dX5_letQuarterGo_57 : decode cX5_letQuarterGo 57 = .ok (.iconst 1, 1) := by decide +kernel
theorem dX5_letQuarterGo_58 : decode cX5_letQuarterGo 58 = .ok (.iadd, 1) := by decide +kernel
theorem dX5_letQuarterGo_59 : decode cX5_letQuarterGo 59 = .ok (.putfield 195, 3) := by decide +kernel
theorem dX5_letQuarterGo_62 : decode cX5_letQuarterGo 62 = .ok (.aload_n 0, 1) := by decide +kernel
theorem dX5_letQuarterGo_63 : decode cX5_letQuarterGo 63 = .ok (.getfield 195, 3) := by decide +kernel
theorem dX5_letQuarterGo_66 : decode cX5_letQuarterGo 66 = .ok (.bipush 40, 2) := by decide +kernel
theorem dX5_letQuarterGo_68 : decode cX5_letQuarterGo 68 = .ok (.irem, 1) := by decide +kernel
theorem dX5_letQuarterGo_69 : decode cX5_letQuarterGo 69 = .ok (.ifCond .ne 16, 3) := by decide +kernel
theorem dX5_letQuarterGo_72 : decode cX5_letQuarterGo 72 = .ok (.aload_n 0, 1) := by decide +kernel
theorem dX5_letQuarterGo_73 : decode cX5_letQuarterGo 73 = .ok (.aload_n 0, 1) := by decide +kernel
theorem dX5_letQuarterGo_74 : decode cX5_letQuarterGo 74 = .ok (.getfield 195, 3) := by decide +kernel
theorem dX5_letQuarterGo_77 : decode cX5_letQuarterGo 77 = .ok (.bipush 40, 2) := by decide +kernel
theorem dX5_letQuarterGo_79 : decode cX5_letQuarterGo 79 = .ok (.idiv, 1) := by decide +kernel
theorem dX5_letQuarterGo_80 : decode cX5_letQuarterGo 80 = .ok (.iconst 1, 1) := by decide +kernel
theorem dX5_letQuarterGo_81 : decode cX5_letQuarterGo 81 = .ok (.isub, 1) := by decide +kernel
theorem dX5_letQuarterGo_82 : decode cX5_letQuarterGo 82 = .ok (.invokevirtual 301, 3) := by decide +kernel
theorem dX5_letQuarterGo_85 : decode cX5_letQuarterGo 85 = .ok (.return_, 1) := by decide +kernel
theorem dX5_endDay_0 : decode cX5_endDay 0 = .ok (.aload_n 0, 1) := by decide +kernel
theorem dX5_endDay_1 : decode cX5_endDay 1 = .ok (.getfield 31, 3) := by decide +kernel
theorem dX5_endDay_4 : decode cX5_endDay 4 = .ok (.astore_n 2, 1) := by decide +kernel
theorem dX5_endDay_5 : decode cX5_endDay 5 = .ok (.aload_n 2, 1) := by decide +kernel
theorem dX5_endDay_6 : decode cX5_endDay 6 = .ok (.arraylength, 1) := by decide +kernel
theorem dX5_endDay_7 : decode cX5_endDay 7 = .ok (.istore_n 3, 1) := by decide +kernel
theorem dX5_endDay_8 : decode cX5_endDay 8 = .ok (.iconst 0, 1) := by decide +kernel
theorem dX5_endDay_9 : decode cX5_endDay 9 = .ok (.istore 4, 2) := by decide +kernel
theorem dX5_endDay_11 : decode cX5_endDay 11 = .ok (.iload 4, 2) := by decide +kernel
theorem dX5_endDay_13 : decode cX5_endDay 13 = .ok (.iload_n 3, 1) := by decide +kernel
theorem dX5_endDay_14 : decode cX5_endDay 14 = .ok (.if_icmp .ge 43, 3) := by decide +kernel
theorem dX5_endDay_17 : decode cX5_endDay 17 = .ok (.aload_n 2, 1) := by decide +kernel
theorem dX5_endDay_18 : decode cX5_endDay 18 = .ok (.iload 4, 2) := by decide +kernel
theorem dX5_endDay_20 : decode cX5_endDay 20 = .ok (.aaload, 1) := by decide +kernel
theorem dX5_endDay_21 : decode cX5_endDay 21 = .ok (.astore 5, 2) := by decide +kernel
theorem dX5_endDay_23 : decode cX5_endDay 23 = .ok (.aload 5, 2) := by decide +kernel
theorem dX5_endDay_25 : decode cX5_endDay 25 = .ok (.ifnull 26, 3) := by decide +kernel
theorem dX5_endDay_28 : decode cX5_endDay 28 = .ok (.aload 5, 2) := by decide +kernel
theorem dX5_endDay_30 : decode cX5_endDay 30 = .ok (.getfield 228, 3) := by decide +kernel
theorem dX5_endDay_33 : decode cX5_endDay 33 = .ok (.ifCond .ne 18, 3) := by decide +kernel
theorem dX5_endDay_36 : decode cX5_endDay 36 = .ok (.aload 5, 2) := by decide +kernel
theorem dX5_endDay_38 : decode cX5_endDay 38 = .ok (.getfield 234, 3) := by decide +kernel
theorem dX5_endDay_41 : decode cX5_endDay 41 = .ok (.iload_n 1, 1) := by decide +kernel
theorem dX5_endDay_42 : decode cX5_endDay 42 = .ok (.if_icmp .gt 9, 3) := by decide +kernel
theorem dX5_endDay_45 : decode cX5_endDay 45 = .ok (.aload 5, 2) := by decide +kernel
theorem dX5_endDay_47 : decode cX5_endDay 47 = .ok (.iconst 2, 1) := by decide +kernel
theorem dX5_endDay_48 : decode cX5_endDay 48 = .ok (.putfield 228, 3) := by decide +kernel
theorem dX5_endDay_51 : decode cX5_endDay 51 = .ok (.iinc 4 1, 3) := by decide +kernel
theorem dX5_endDay_54 : decode cX5_endDay 54 = .ok (.goto (-43), 3) := by decide +kernel
theorem dX5_endDay_57 : decode cX5_endDay 57 = .ok (.return_, 1) := by decide +kernel
theorem dX5_possibleOfKind_0 : decode cX5_possibleOfKind 0 = .ok (.iconst 0, 1) := by decide +kernel
theorem dX5_possibleOfKind_1 : decode cX5_possibleOfKind 1 = .ok (.istore_n 2, 1) := by decide +kernel
theorem dX5_possibleOfKind_2 : decode cX5_possibleOfKind 2 = .ok (.bipush 9, 2) := by decide +kernel
theorem dX5_possibleOfKind_4 : decode cX5_possibleOfKind 4 = .ok (.istore_n 3, 1) := by decide +kernel
theorem dX5_possibleOfKind_5 : decode cX5_possibleOfKind 5 = .ok (.iload_n 3, 1) := by decide +kernel
theorem dX5_possibleOfKind_6 : decode cX5_possibleOfKind 6 = .ok (.iconst 1, 1) := by decide +kernel
theorem dX5_possibleOfKind_7 : decode cX5_possibleOfKind 7 = .ok (.if_icmp .lt 82, 3) := by decide +kernel
theorem dX5_possibleOfKind_10 : decode cX5_possibleOfKind 10 = .ok (.aload_n 0, 1) := by decide +kernel
theorem dX5_possibleOfKind_11 : decode cX5_possibleOfKind 11 = .ok (.getfield 25, 3) := by decide +kernel
theorem dX5_possibleOfKind_14 : decode cX5_possibleOfKind 14 = .ok (.iload_n 1, 1) := by decide +kernel
theorem dX5_possibleOfKind_15 : decode cX5_possibleOfKind 15 = .ok (.iload_n 3, 1) := by decide +kernel
theorem dX5_possibleOfKind_16 : decode cX5_possibleOfKind 16 = .ok (.invokevirtual 304, 3) := by decide +kernel
theorem dX5_possibleOfKind_19 : decode cX5_possibleOfKind 19 = .ok (.istore 4, 2) := by decide +kernel
theorem dX5_possibleOfKind_21 : decode cX5_possibleOfKind 21 = .ok (.aload_n 0, 1) := by decide +kernel
theorem dX5_possibleOfKind_22 : decode cX5_possibleOfKind 22 = .ok (.getfield 31, 3) := by decide +kernel
theorem dX5_possibleOfKind_25 : decode cX5_possibleOfKind 25 = .ok (.astore 5, 2) := by decide +kernel
theorem dX5_possibleOfKind_27 : decode cX5_possibleOfKind 27 = .ok (.aload 5, 2) := by decide +kernel
theorem dX5_possibleOfKind_29 : decode cX5_possibleOfKind 29 = .ok (.arraylength, 1) := by decide +kernel
theorem dX5_possibleOfKind_30 : decode cX5_possibleOfKind 30 = .ok (.istore 6, 2) := by decide +kernel
theorem dX5_possibleOfKind_32 : decode cX5_possibleOfKind 32 = .ok (.iconst 0, 1) := by decide +kernel
theorem dX5_possibleOfKind_33 : decode cX5_possibleOfKind 33 = .ok (.istore 7, 2) := by decide +kernel
theorem dX5_possibleOfKind_35 : decode cX5_possibleOfKind 35 = .ok (.iload 7, 2) := by decide +kernel
theorem dX5_possibleOfKind_37 : decode cX5_possibleOfKind 37 = .ok (.iload 6, 2) := by decide +kernel
theorem dX5_possibleOfKind_39 : decode cX5_possibleOfKind 39 = .ok (.if_icmp .ge 44, 3) := by decide +kernel
theorem dX5_possibleOfKind_42 : decode cX5_possibleOfKind 42 = .ok (.aload 5, 2) := by decide +kernel
theorem dX5_possibleOfKind_44 : decode cX5_possibleOfKind 44 = .ok (.iload 7, 2) := by decide +kernel
theorem dX5_possibleOfKind_46 : decode cX5_possibleOfKind 46 = .ok (.aaload, 1) := by decide +kernel
theorem dX5_possibleOfKind_47 : decode cX5_possibleOfKind 47 = .ok (.astore 8, 2) := by decide +kernel
theorem dX5_possibleOfKind_49 : decode cX5_possibleOfKind 49 = .ok (.aload 8, 2) := by decide +kernel
theorem dX5_possibleOfKind_51 : decode cX5_possibleOfKind 51 = .ok (.ifnull 26, 3) := by decide +kernel
theorem dX5_possibleOfKind_54 : decode cX5_possibleOfKind 54 = .ok (.aload 8, 2) := by decide +kernel
theorem dX5_possibleOfKind_56 : decode cX5_possibleOfKind 56 = .ok (.iload_n 1, 1) := by decide +kernel
theorem dX5_possibleOfKind_57 : decode cX5_possibleOfKind 57 = .ok (.iload_n 3, 1) := by decide +kernel
theorem dX5_possibleOfKind_58 : decode cX5_possibleOfKind 58 = .ok (.invokevirtual 307, 3) := by decide +kernel
theorem dX5_possibleOfKind_61 : decode cX5_possibleOfKind 61 = .ok (.ifCond .eq 16, 3) := by decide +kernel
theorem dX5_possibleOfKind_64 : decode cX5_possibleOfKind 64 = .ok (.aload_n 0, 1) := by decide +kernel
theorem dX5_possibleOfKind_65 : decode cX5_possibleOfKind 65 = .ok (.iload_n 2, 1) := by decide +kernel
theorem dX5_possibleOfKind_66 : decode cX5_possibleOfKind 66 = .ok (.aload 8, 2) := by decide +kernel
theorem dX5_possibleOfKind_68 : decode cX5_possibleOfKind 68 = .ok (.getfield 222, 3) := by decide +kernel
theorem dX5_possibleOfKind_71 : decode cX5_possibleOfKind 71 = .ok (.iload 4, 2) := by decide +kernel
theorem dX5_possibleOfKind_73 : decode cX5_possibleOfKind 73 = .ok (.invokevirtual 310, 3) := by decide +kernel
theorem dX5_possibleOfKind_76 : decode cX5_possibleOfKind 76 = .ok (.istore_n 2, 1) := by decide +kernel
theorem dX5_possibleOfKind_77 : decode cX5_possibleOfKind 77 = .ok (.iinc 7 1, 3) := by decide +kernel
theorem dX5_possibleOfKind_80 : decode cX5_possibleOfKind 80 = .ok (.goto (-45), 3) := by decide +kernel
theorem dX5_possibleOfKind_83 : decode cX5_possibleOfKind 83 = .ok (.iinc 3 (-1), 3) := by decide +kernel
theorem dX5_possibleOfKind_86 : decode cX5_possibleOfKind 86 = .ok (.goto (-81), 3) := by decide +kernel
theorem dX5_possibleOfKind_89 : decode cX5_possibleOfKind 89 = .ok (.iload_n 2, 1) := by decide +kernel
theorem dX5_possibleOfKind_90 : decode cX5_possibleOfKind 90 = .ok (.ireturn, 1) := by decide +kernel
theorem dX5_planOneMore_0 : decode cX5_planOneMore 0 = .ok (.iload_n 1, 1) := by decide +kernel
theorem dX5_planOneMore_1 : decode cX5_planOneMore 1 = .ok (.iconst 1, 1) := by decide +kernel
theorem dX5_planOneMore_2 : decode cX5_planOneMore 2 = .ok (.iadd, 1) := by decide +kernel
theorem dX5_planOneMore_3 : decode cX5_planOneMore 3 = .ok (.istore 4, 2) := by decide +kernel
theorem dX5_planOneMore_5 : decode cX5_planOneMore 5 = .ok (.iload_n 1, 1) := by decide +kernel
theorem dX5_planOneMore_6 : decode cX5_planOneMore 6 = .ok (.ifCond .lt 13, 3) := by decide +kernel
theorem dX5_planOneMore_9 : decode cX5_planOneMore 9 = .ok (.iload 4, 2) := by decide +kernel
theorem dX5_planOneMore_11 : decode cX5_planOneMore 11 = .ok (.aload_n 0, 1) := by decide +kernel
theorem dX5_planOneMore_12 : decode cX5_planOneMore 12 = .ok (.getfield 42, 3) := by decide +kernel
theorem dX5_planOneMore_15 : decode cX5_planOneMore 15 = .ok (.arraylength, 1) := by decide +kernel
theorem dX5_planOneMore_16 : decode cX5_planOneMore 16 = .ok (.if_icmp .lt 5, 3) := by decide +kernel
theorem dX5_planOneMore_19 : decode cX5_planOneMore 19 = .ok (.iload_n 1, 1) := by decide +kernel
theorem dX5_planOneMore_20 : decode cX5_planOneMore 20 = .ok (.ireturn, 1) := by decide +kernel
theorem dX5_planOneMore_21 : decode cX5_planOneMore 21 = .ok (.aload_n 0, 1) := by decide +kernel
theorem dX5_planOneMore_22 : decode cX5_planOneMore 22 = .ok (.getfield 42, 3) := by decide +kernel
theorem dX5_planOneMore_25 : decode cX5_planOneMore 25 = .ok (.iload 4, 2) := by decide +kernel
theorem dX5_planOneMore_27 : decode cX5_planOneMore 27 = .ok (.aload_n 0, 1) := by decide +kernel
theorem dX5_planOneMore_28 : decode cX5_planOneMore 28 = .ok (.getfield 42, 3) := by decide +kernel
theorem dX5_planOneMore_31 : decode cX5_planOneMore 31 = .ok (.iload_n 1, 1) := by decide +kernel
theorem dX5_planOneMore_32 : decode cX5_planOneMore 32 = .ok (.iaload, 1) := by decide +kernel
theorem dX5_planOneMore_33 : decode cX5_planOneMore 33 = .ok (.iload_n 2, 1) := by decide +kernel
theorem dX5_planOneMore_34 : decode cX5_planOneMore 34 = .ok (.iadd, 1) := by decide +kernel
theorem dX5_planOneMore_35 : decode cX5_planOneMore 35 = .ok (.iastore, 1) := by decide +kernel
theorem dX5_planOneMore_36 : decode cX5_planOneMore 36 = .ok (.iload_n 1, 1) := by decide +kernel
theorem dX5_planOneMore_37 : decode cX5_planOneMore 37 = .ok (.istore 5, 2) := by decide +kernel
theorem dX5_planOneMore_39 : decode cX5_planOneMore 39 = .ok (.iload 5, 2) := by decide +kernel
theorem dX5_planOneMore_41 : decode cX5_planOneMore 41 = .ok (.iconst 1, 1) := by decide +kernel
theorem dX5_planOneMore_42 : decode cX5_planOneMore 42 = .ok (.if_icmp .lt 37, 3) := by decide +kernel
theorem dX5_planOneMore_45 : decode cX5_planOneMore 45 = .ok (.aload_n 0, 1) := by decide +kernel
theorem dX5_planOneMore_46 : decode cX5_planOneMore 46 = .ok (.getfield 42, 3) := by decide +kernel
theorem dX5_planOneMore_49 : decode cX5_planOneMore 49 = .ok (.iload 5, 2) := by decide +kernel
theorem dX5_planOneMore_51 : decode cX5_planOneMore 51 = .ok (.aload_n 0, 1) := by decide +kernel
theorem dX5_planOneMore_52 : decode cX5_planOneMore 52 = .ok (.getfield 42, 3) := by decide +kernel
theorem dX5_planOneMore_55 : decode cX5_planOneMore 55 = .ok (.iload 5, 2) := by decide +kernel
theorem dX5_planOneMore_57 : decode cX5_planOneMore 57 = .ok (.iaload, 1) := by decide +kernel
theorem dX5_planOneMore_58 : decode cX5_planOneMore 58 = .ok (.aload_n 0, 1) := by decide +kernel
theorem dX5_planOneMore_59 : decode cX5_planOneMore 59 = .ok (.getfield 42, 3) := by decide +kernel
theorem dX5_planOneMore_62 : decode cX5_planOneMore 62 = .ok (.iload 5, 2) := by decide +kernel
theorem dX5_planOneMore_64 : decode cX5_planOneMore 64 = .ok (.iconst 1, 1) := by decide +kernel
theorem dX5_planOneMore_65 : decode cX5_planOneMore 65 = .ok (.isub, 1) := by decide +kernel
theorem dX5_planOneMore_66 : decode cX5_planOneMore 66 = .ok (.iaload, 1) := by decide +kernel
theorem dX5_planOneMore_67 : decode cX5_planOneMore 67 = .ok (.iload_n 2, 1) := by decide +kernel
theorem dX5_planOneMore_68 : decode cX5_planOneMore 68 = .ok (.iadd, 1) := by decide +kernel
theorem dX5_planOneMore_69 : decode cX5_planOneMore 69 = .ok (.invokestatic 314, 3) := by decide +kernel
theorem dX5_planOneMore_72 : decode cX5_planOneMore 72 = .ok (.iastore, 1) := by decide +kernel
theorem dX5_planOneMore_73 : decode cX5_planOneMore 73 = .ok (.iinc 5 (-1), 3) := by decide +kernel
theorem dX5_planOneMore_76 : decode cX5_planOneMore 76 = .ok (.goto (-37), 3) := by decide +kernel
theorem dX5_planOneMore_79 : decode cX5_planOneMore 79 = .ok (.aload_n 0, 1) := by decide +kernel
theorem dX5_planOneMore_80 : decode cX5_planOneMore 80 = .ok (.getfield 42, 3) := by decide +kernel
theorem dX5_planOneMore_83 : decode cX5_planOneMore 83 = .ok (.iload 4, 2) := by decide +kernel
theorem dX5_planOneMore_85 : decode cX5_planOneMore 85 = .ok (.iaload, 1) := by decide +kernel
theorem dX5_planOneMore_86 : decode cX5_planOneMore 86 = .ok (.iload_n 3, 1) := by decide +kernel
theorem dX5_planOneMore_87 : decode cX5_planOneMore 87 = .ok (.if_icmp .gt 8, 3) := by decide +kernel
theorem dX5_planOneMore_90 : decode cX5_planOneMore 90 = .ok (.iload 4, 2) := by decide +kernel
theorem dX5_planOneMore_92 : decode cX5_planOneMore 92 = .ok (.goto 4, 3) := by decide +kernel
theorem dX5_planOneMore_95 : decode cX5_planOneMore 95 = .ok (.iload_n 1, 1) := by decide +kernel
theorem dX5_planOneMore_96 : decode cX5_planOneMore 96 = .ok (.ireturn, 1) := by decide +kernel
theorem dX6_init_0 : decode cX6_init 0 = .ok (.aload_n 0, 1) := by decide +kernel
theorem dX6_init_1 : decode cX6_init 1 = .ok (.invokespecial 1, 3) := by decide +kernel
theorem dX6_init_4 : decode cX6_init 4 = .ok (.aload_n 0, 1) := by decide +kernel
theorem dX6_init_5 : decode cX6_init 5 = .ok (.iconst (-1), 1) := by decide +kernel
theorem dX6_init_6 : decode cX6_init 6 = .ok (.putfield 7, 3) := by decide +kernel
theorem dX6_init_9 : decode cX6_init 9 = .ok (.return_, 1) := by decide +kernel
theorem dX6_size_0 : decode cX6_size 0 = .ok (.bipush 9, 2) := by decide +kernel
theorem dX6_size_2 : decode cX6_size 2 = .ok (.aload_n 0, 1) := by decide +kernel
theorem dX6_size_3 : decode cX6_size 3 = .ok (.getfield 26, 3) := by decide +kernel
theorem dX6_size_6 : decode cX6_size 6 = .ok (.ifCond .eq 13, 3) := by decide +kernel
theorem dX6_size_9 : decode cX6_size 9 = .ok (.aload_n 0, 1) := by decide +kernel
theorem dX6_size_10 : decode cX6_size 10 = .ok (.getfield 20, 3) := by decide +kernel
theorem dX6_size_13 : decode cX6_size 13 = .ok (.bipush 80, 2) := by decide +kernel
theorem dX6_size_15 : decode cX6_size 15 = .ok (.idiv, 1) := by decide +kernel
theorem dX6_size_16 : decode cX6_size 16 = .ok (.goto 10, 3) := by decide +kernel
theorem dX6_size_19 : decode cX6_size 19 = .ok (.aload_n 0, 1) := by decide +kernel
theorem dX6_size_20 : decode cX6_size 20 = .ok (.getfield 20, 3) := by decide +kernel
theorem dX6_size_23 : decode cX6_size 23 = .ok (.bipush 40, 2) := by decide +kernel
theorem dX6_size_25 : decode cX6_size 25 = .ok (.idiv, 1) := by decide +kernel
theorem dX6_size_26 : decode cX6_size 26 = .ok (.invokestatic 33, 3) := by decide +kernel
theorem dX6_size_29 : decode cX6_size 29 = .ok (.ireturn, 1) := by decide +kernel
theorem dX7_init_0 : decode cX7_init 0 = .ok (.aload_n 0, 1) := by decide +kernel
theorem dX7_init_1 : decode cX7_init 1 = .ok (.invokespecial 1, 3) := by decide +kernel
theorem dX7_init_4 : decode cX7_init 4 = .ok (.aload_n 0, 1) := by decide +kernel
theorem dX7_init_5 : decode cX7_init 5 = .ok (.bipush 20, 2) := by decide +kernel
theorem dX7_init_7 : decode cX7_init 7 = .ok (.putfield 7, 3) := by decide +kernel
theorem dX7_init_10 : decode cX7_init 10 = .ok (.aload_n 0, 1) := by decide +kernel
theorem dX7_init_11 : decode cX7_init 11 = .ok (.iconst 0, 1) := by decide +kernel
theorem dX7_init_12 : decode cX7_init 12 = .ok (.anewarray 13, 3) := by decide +kernel
theorem dX7_init_15 : decode cX7_init 15 = .ok (.putfield 15, 3) := by decide +kernel
theorem dX7_init_18 : decode cX7_init 18 = .ok (.aload_n 0, 1) := by decide +kernel
theorem dX7_init_19 : decode cX7_init 19 = .ok (.iconst 4, 1) := by decide +kernel
theorem dX7_init_20 : decode cX7_init 20 = .ok (.bipush 10, 2) := by decide +kernel
theorem dX7_init_22 : decode cX7_init 22 = .ok (.multianewarray 19 2, 4) := by decide +kernel
theorem dX7_init_26 : decode cX7_init 26 = .ok (.putfield 21, 3) := by decide +kernel
theorem dX7_init_29 : decode cX7_init 29 = .ok (.aload_n 0, 1) := by decide +kernel
theorem dX7_init_30 : decode cX7_init 30 = .ok (.iconst 0, 1) := by decide +kernel
theorem dX7_init_31 : decode cX7_init 31 = .ok (.anewarray 24, 3) := by decide +kernel
theorem dX7_init_34 : decode cX7_init 34 = .ok (.putfield 26, 3) := by decide +kernel
theorem dX7_init_37 : decode cX7_init 37 = .ok (.return_, 1) := by decide +kernel
theorem dX7_frame_0 : decode cX7_frame 0 = .ok (.aload_n 0, 1) := by decide +kernel
theorem dX7_frame_1 : decode cX7_frame 1 = .ok (.getfield 15, 3) := by decide +kernel
theorem dX7_frame_4 : decode cX7_frame 4 = .ok (.arraylength, 1) := by decide +kernel
theorem dX7_frame_5 : decode cX7_frame 5 = .ok (.iconst 1, 1) := by decide +kernel
theorem dX7_frame_6 : decode cX7_frame 6 = .ok (.iadd, 1) := by decide +kernel
theorem dX7_frame_7 : decode cX7_frame 7 = .ok (.anewarray 13, 3) := by decide +kernel
theorem dX7_frame_10 : decode cX7_frame 10 = .ok (.astore_n 3, 1) := by decide +kernel
theorem dX7_frame_11 : decode cX7_frame 11 = .ok (.iconst 0, 1) := by decide +kernel
theorem dX7_frame_12 : decode cX7_frame 12 = .ok (.istore 4, 2) := by decide +kernel
theorem dX7_frame_14 : decode cX7_frame 14 = .ok (.iload 4, 2) := by decide +kernel
theorem dX7_frame_16 : decode cX7_frame 16 = .ok (.aload_n 0, 1) := by decide +kernel
theorem dX7_frame_17 : decode cX7_frame 17 = .ok (.getfield 15, 3) := by decide +kernel
theorem dX7_frame_20 : decode cX7_frame 20 = .ok (.arraylength, 1) := by decide +kernel
theorem dX7_frame_21 : decode cX7_frame 21 = .ok (.if_icmp .ge 20, 3) := by decide +kernel
theorem dX7_frame_24 : decode cX7_frame 24 = .ok (.aload_n 3, 1) := by decide +kernel
theorem dX7_frame_25 : decode cX7_frame 25 = .ok (.iload 4, 2) := by decide +kernel
theorem dX7_frame_27 : decode cX7_frame 27 = .ok (.aload_n 0, 1) := by decide +kernel
theorem dX7_frame_28 : decode cX7_frame 28 = .ok (.getfield 15, 3) := by decide +kernel
theorem dX7_frame_31 : decode cX7_frame 31 = .ok (.iload 4, 2) := by decide +kernel
theorem dX7_frame_33 : decode cX7_frame 33 = .ok (.aaload, 1) := by decide +kernel
theorem dX7_frame_34 : decode cX7_frame 34 = .ok (.aastore, 1) := by decide +kernel
theorem dX7_frame_35 : decode cX7_frame 35 = .ok (.iinc 4 1, 3) := by decide +kernel
theorem dX7_frame_38 : decode cX7_frame 38 = .ok (.goto (-24), 3) := by decide +kernel
theorem dX7_frame_41 : decode cX7_frame 41 = .ok (.new 13, 3) := by decide +kernel
theorem dX7_frame_44 : decode cX7_frame 44 = .ok (.dup, 1) := by decide +kernel
theorem dX7_frame_45 : decode cX7_frame 45 = .ok (.invokespecial 43, 3) := by decide +kernel
theorem dX7_frame_48 : decode cX7_frame 48 = .ok (.astore 4, 2) := by decide +kernel
theorem dX7_frame_50 : decode cX7_frame 50 = .ok (.aload 4, 2) := by decide +kernel
theorem dX7_frame_52 : decode cX7_frame 52 = .ok (.iload_n 1, 1) := by decide +kernel
theorem dX7_frame_53 : decode cX7_frame 53 = .ok (.putfield 44, 3) := by decide +kernel
theorem dX7_frame_56 : decode cX7_frame 56 = .ok (.aload 4, 2) := by decide +kernel
theorem dX7_frame_58 : decode cX7_frame 58 = .ok (.iload_n 2, 1) := by decide +kernel
theorem dX7_frame_59 : decode cX7_frame 59 = .ok (.putfield 47, 3) := by decide +kernel
theorem dX7_frame_62 : decode cX7_frame 62 = .ok (.aload_n 3, 1) := by decide +kernel
theorem dX7_frame_63 : decode cX7_frame 63 = .ok (.aload_n 0, 1) := by decide +kernel
theorem dX7_frame_64 : decode cX7_frame 64 = .ok (.getfield 15, 3) := by decide +kernel
theorem dX7_frame_67 : decode cX7_frame 67 = .ok (.arraylength, 1) := by decide +kernel
theorem dX7_frame_68 : decode cX7_frame 68 = .ok (.aload 4, 2) := by decide +kernel
theorem dX7_frame_70 : decode cX7_frame 70 = .ok (.aastore, 1) := by decide +kernel
theorem dX7_frame_71 : decode cX7_frame 71 = .ok (.aload_n 0, 1) := by decide +kernel
theorem dX7_frame_72 : decode cX7_frame 72 = .ok (.aload_n 3, 1) := by decide +kernel
theorem dX7_frame_73 : decode cX7_frame 73 = .ok (.putfield 15, 3) := by decide +kernel
theorem dX7_frame_76 : decode cX7_frame 76 = .ok (.return_, 1) := by decide +kernel
theorem dX7_order_0 : decode cX7_order 0 = .ok (.aload_n 0, 1) := by decide +kernel
theorem dX7_order_1 : decode cX7_order 1 = .ok (.getfield 26, 3) := by decide +kernel
theorem dX7_order_4 : decode cX7_order 4 = .ok (.arraylength, 1) := by decide +kernel
theorem dX7_order_5 : decode cX7_order 5 = .ok (.iconst 1, 1) := by decide +kernel
theorem dX7_order_6 : decode cX7_order 6 = .ok (.iadd, 1) := by decide +kernel
theorem dX7_order_7 : decode cX7_order 7 = .ok (.anewarray 24, 3) := by decide +kernel
theorem dX7_order_10 : decode cX7_order 10 = .ok (.astore 5, 2) := by decide +kernel
theorem dX7_order_12 : decode cX7_order 12 = .ok (.iconst 0, 1) := by decide +kernel
theorem dX7_order_13 : decode cX7_order 13 = .ok (.istore 6, 2) := by decide +kernel
theorem dX7_order_15 : decode cX7_order 15 = .ok (.iload 6, 2) := by decide +kernel
theorem dX7_order_17 : decode cX7_order 17 = .ok (.aload_n 0, 1) := by decide +kernel
theorem dX7_order_18 : decode cX7_order 18 = .ok (.getfield 26, 3) := by decide +kernel
theorem dX7_order_21 : decode cX7_order 21 = .ok (.arraylength, 1) := by decide +kernel
theorem dX7_order_22 : decode cX7_order 22 = .ok (.if_icmp .ge 21, 3) := by decide +kernel
theorem dX7_order_25 : decode cX7_order 25 = .ok (.aload 5, 2) := by decide +kernel
theorem dX7_order_27 : decode cX7_order 27 = .ok (.iload 6, 2) := by decide +kernel
theorem dX7_order_29 : decode cX7_order 29 = .ok (.aload_n 0, 1) := by decide +kernel
theorem dX7_order_30 : decode cX7_order 30 = .ok (.getfield 26, 3) := by decide +kernel
theorem dX7_order_33 : decode cX7_order 33 = .ok (.iload 6, 2) := by decide +kernel
theorem dX7_order_35 : decode cX7_order 35 = .ok (.aaload, 1) := by decide +kernel
theorem dX7_order_36 : decode cX7_order 36 = .ok (.aastore, 1) := by decide +kernel
theorem dX7_order_37 : decode cX7_order 37 = .ok (.iinc 6 1, 3) := by decide +kernel
theorem dX7_order_40 : decode cX7_order 40 = .ok (.goto (-25), 3) := by decide +kernel
theorem dX7_order_43 : decode cX7_order 43 = .ok (.aload 5, 2) := by decide +kernel
theorem dX7_order_45 : decode cX7_order 45 = .ok (.aload_n 0, 1) := by decide +kernel
theorem dX7_order_46 : decode cX7_order 46 = .ok (.getfield 26, 3) := by decide +kernel
theorem dX7_order_49 : decode cX7_order 49 = .ok (.arraylength, 1) := by decide +kernel
theorem dX7_order_50 : decode cX7_order 50 = .ok (.iconst 5, 1) := by decide +kernel
theorem dX7_order_51 : decode cX7_order 51 = .ok (.newarray .int, 2) := by decide +kernel
theorem dX7_order_53 : decode cX7_order 53 = .ok (.dup, 1) := by decide +kernel
theorem dX7_order_54 : decode cX7_order 54 = .ok (.iconst 0, 1) := by decide +kernel
theorem dX7_order_55 : decode cX7_order 55 = .ok (.iload_n 1, 1) := by decide +kernel
theorem dX7_order_56 : decode cX7_order 56 = .ok (.iastore, 1) := by decide +kernel
theorem dX7_order_57 : decode cX7_order 57 = .ok (.dup, 1) := by decide +kernel
theorem dX7_order_58 : decode cX7_order 58 = .ok (.iconst 1, 1) := by decide +kernel
theorem dX7_order_59 : decode cX7_order 59 = .ok (.iload_n 2, 1) := by decide +kernel
theorem dX7_order_60 : decode cX7_order 60 = .ok (.iastore, 1) := by decide +kernel
theorem dX7_order_61 : decode cX7_order 61 = .ok (.dup, 1) := by decide +kernel
theorem dX7_order_62 : decode cX7_order 62 = .ok (.iconst 2, 1) := by decide +kernel
theorem dX7_order_63 : decode cX7_order 63 = .ok (.iload_n 3, 1) := by decide +kernel
theorem dX7_order_64 : decode cX7_order 64 = .ok (.iastore, 1) := by decide +kernel
theorem dX7_order_65 : decode cX7_order 65 = .ok (.dup, 1) := by decide +kernel
theorem dX7_order_66 : decode cX7_order 66 = .ok (.iconst 3, 1) := by decide +kernel
