theorem dX6_quarterOn_14 : decode cX6_quarterOn 14 = .ok (.iload_n 2, 1) := by decide +kernel
theorem dX6_quarterOn_15 : decode cX6_quarterOn 15 = .ok (.aload_n 0, 1) := by decide +kernel
theorem dX6_quarterOn_16 : decode cX6_quarterOn 16 = .ok (.getfield 33, 3) := by decide +kernel
theorem dX6_quarterOn_19 : decode cX6_quarterOn 19 = .ok (.if_icmp .ge 36, 3) := by decide +kernel
theorem dX6_quarterOn_22 : decode cX6_quarterOn 22 = .ok (.iload_n 2, 1) := by decide +kernel
theorem dX6_quarterOn_23 : decode cX6_quarterOn 23 = .ok (.iload_n 1, 1) := by decide +kernel
theorem dX6_quarterOn_24 : decode cX6_quarterOn 24 = .ok (.if_icmp .eq 25, 3) := by decide +kernel
theorem dX6_quarterOn_27 : decode cX6_quarterOn 27 = .ok (.aload_n 0, 1) := by decide +kernel
theorem dX6_quarterOn_28 : decode cX6_quarterOn 28 = .ok (.iload_n 2, 1) := by decide +kernel
theorem dX6_quarterOn_29 : decode cX6_quarterOn 29 = .ok (.iconst 3, 1) := by decide +kernel
theorem dX6_quarterOn_30 : decode cX6_quarterOn 30 = .ok (.iconst 0, 1) := by decide +kernel
theorem dX6_quarterOn_31 : decode cX6_quarterOn 31 = .ok (.aload_n 0, 1) := by decide +kernel
theorem dX6_quarterOn_32 : decode cX6_quarterOn 32 = .ok (.iload_n 2, 1) := by decide +kernel
theorem dX6_quarterOn_33 : decode cX6_quarterOn 33 = .ok (.iconst 3, 1) := by decide +kernel
theorem dX6_quarterOn_34 : decode cX6_quarterOn 34 = .ok (.invokevirtual 59, 3) := by decide +kernel
theorem dX6_quarterOn_37 : decode cX6_quarterOn 37 = .ok (.aload_n 0, 1) := by decide +kernel
theorem dX6_quarterOn_38 : decode cX6_quarterOn 38 = .ok (.iload_n 2, 1) := by decide +kernel
theorem dX6_quarterOn_39 : decode cX6_quarterOn 39 = .ok (.invokevirtual 91, 3) := by decide +kernel
theorem dX6_quarterOn_42 : decode cX6_quarterOn 42 = .ok (.isub, 1) := by decide +kernel
theorem dX6_quarterOn_43 : decode cX6_quarterOn 43 = .ok (.invokestatic 85, 3) := by decide +kernel
theorem dX6_quarterOn_46 : decode cX6_quarterOn 46 = .ok (.invokevirtual 70, 3) := by decide +kernel
theorem dX6_quarterOn_49 : decode cX6_quarterOn 49 = .ok (.iinc 2 1, 3) := by decide +kernel
theorem dX6_quarterOn_52 : decode cX6_quarterOn 52 = .ok (.goto (-38), 3) := by decide +kernel
theorem dX6_quarterOn_55 : decode cX6_quarterOn 55 = .ok (.aload_n 0, 1) := by decide +kernel
theorem dX6_quarterOn_56 : decode cX6_quarterOn 56 = .ok (.dup, 1) := by decide +kernel
theorem dX6_quarterOn_57 : decode cX6_quarterOn 57 = .ok (.getfield 94, 3) := by decide +kernel
theorem dX6_quarterOn_60 : decode cX6_quarterOn 60 = .ok (.iconst 1, 1) := by decide +kernel
theorem dX6_quarterOn_61 : decode cX6_quarterOn 61 = .ok (.iadd, 1) := by decide +kernel
theorem dX6_quarterOn_62 : decode cX6_quarterOn 62 = .ok (.putfield 94, 3) := by decide +kernel
theorem dX6_quarterOn_65 : decode cX6_quarterOn 65 = .ok (.aload_n 0, 1) := by decide +kernel
theorem dX6_quarterOn_66 : decode cX6_quarterOn 66 = .ok (.getfield 94, 3) := by decide +kernel
theorem dX6_quarterOn_69 : decode cX6_quarterOn 69 = .ok (.bipush 40, 2) := by decide +kernel
theorem dX6_quarterOn_71 : decode cX6_quarterOn 71 = .ok (.irem, 1) := by decide +kernel
theorem dX6_quarterOn_72 : decode cX6_quarterOn 72 = .ok (.ifCond .eq 4, 3) := by decide +kernel
theorem dX6_quarterOn_75 : decode cX6_quarterOn 75 = .ok (.return_, 1) := by decide +kernel
theorem dX6_quarterOn_76 : decode cX6_quarterOn 76 = .ok (.iconst 0, 1) := by decide +kernel
theorem dX6_quarterOn_77 : decode cX6_quarterOn 77 = .ok (.istore_n 2, 1) := by decide +kernel
theorem dX6_quarterOn_78 : decode cX6_quarterOn 78 = .ok (.iload_n 2, 1) := by decide +kernel
theorem dX6_quarterOn_79 : decode cX6_quarterOn 79 = .ok (.aload_n 0, 1) := by decide +kernel
theorem dX6_quarterOn_80 : decode cX6_quarterOn 80 = .ok (.getfield 97, 3) := by decide +kernel
theorem dX6_quarterOn_83 : decode cX6_quarterOn 83 = .ok (.if_icmp .ge 45, 3) := by decide +kernel
theorem dX6_quarterOn_86 : decode cX6_quarterOn 86 = .ok (.aload_n 0, 1) := by decide +kernel
theorem dX6_quarterOn_87 : decode cX6_quarterOn 87 = .ok (.iload_n 2, 1) := by decide +kernel
theorem dX6_quarterOn_88 : decode cX6_quarterOn 88 = .ok (.iconst 4, 1) := by decide +kernel
theorem dX6_quarterOn_89 : decode cX6_quarterOn 89 = .ok (.invokevirtual 100, 3) := by decide +kernel
theorem dX6_quarterOn_92 : decode cX6_quarterOn 92 = .ok (.ifCond .ne 30, 3) := by decide +kernel
theorem dX6_quarterOn_95 : decode cX6_quarterOn 95 = .ok (.aload_n 0, 1) := by decide +kernel
theorem dX6_quarterOn_96 : decode cX6_quarterOn 96 = .ok (.iload_n 2, 1) := by decide +kernel
theorem dX6_quarterOn_97 : decode cX6_quarterOn 97 = .ok (.iconst 3, 1) := by decide +kernel
theorem dX6_quarterOn_98 : decode cX6_quarterOn 98 = .ok (.invokevirtual 100, 3) := by decide +kernel
theorem dX6_quarterOn_101 : decode cX6_quarterOn 101 = .ok (.aload_n 0, 1) := by decide +kernel
theorem dX6_quarterOn_102 : decode cX6_quarterOn 102 = .ok (.getfield 94, 3) := by decide +kernel
theorem dX6_quarterOn_105 : decode cX6_quarterOn 105 = .ok (.bipush 40, 2) := by decide +kernel
theorem dX6_quarterOn_107 : decode cX6_quarterOn 107 = .ok (.idiv, 1) := by decide +kernel
theorem dX6_quarterOn_108 : decode cX6_quarterOn 108 = .ok (.if_icmp .ge 14, 3) := by decide +kernel
theorem dX6_quarterOn_111 : decode cX6_quarterOn 111 = .ok (.aload_n 0, 1) := by decide +kernel
theorem dX6_quarterOn_112 : decode cX6_quarterOn 112 = .ok (.getfield 20, 3) := by decide +kernel
theorem dX6_quarterOn_115 : decode cX6_quarterOn 115 = .ok (.iconst 5, 1) := by decide +kernel
theorem dX6_quarterOn_116 : decode cX6_quarterOn 116 = .ok (.iload_n 2, 1) := by decide +kernel
theorem dX6_quarterOn_117 : decode cX6_quarterOn 117 = .ok (.imul, 1) := by decide +kernel
theorem dX6_quarterOn_118 : decode cX6_quarterOn 118 = .ok (.iconst 4, 1) := by decide +kernel
theorem dX6_quarterOn_119 : decode cX6_quarterOn 119 = .ok (.iadd, 1) := by decide +kernel
theorem dX6_quarterOn_120 : decode cX6_quarterOn 120 = .ok (.iconst 2, 1) := by decide +kernel
theorem dX6_quarterOn_121 : decode cX6_quarterOn 121 = .ok (.iastore, 1) := by decide +kernel
theorem dX6_quarterOn_122 : decode cX6_quarterOn 122 = .ok (.iinc 2 1, 3) := by decide +kernel
theorem dX6_quarterOn_125 : decode cX6_quarterOn 125 = .ok (.goto (-47), 3) := by decide +kernel
theorem dX6_quarterOn_128 : decode cX6_quarterOn 128 = .ok (.return_, 1) := by decide +kernel
theorem dX6_hangs_0 : decode cX6_hangs 0 = .ok (.aload_n 0, 1) := by decide +kernel
theorem dX6_hangs_1 : decode cX6_hangs 1 = .ok (.iload_n 1, 1) := by decide +kernel
theorem dX6_hangs_2 : decode cX6_hangs 2 = .ok (.iconst 5, 1) := by decide +kernel
theorem dX6_hangs_3 : decode cX6_hangs 3 = .ok (.invokevirtual 59, 3) := by decide +kernel
theorem dX6_hangs_6 : decode cX6_hangs 6 = .ok (.iconst (-1), 1) := by decide +kernel
theorem dX6_hangs_7 : decode cX6_hangs 7 = .ok (.if_icmp .eq 7, 3) := by decide +kernel
theorem dX6_hangs_10 : decode cX6_hangs 10 = .ok (.iconst 1, 1) := by decide +kernel
theorem dX6_hangs_11 : decode cX6_hangs 11 = .ok (.goto 4, 3) := by decide +kernel
theorem dX6_hangs_14 : decode cX6_hangs 14 = .ok (.iconst 0, 1) := by decide +kernel
theorem dX6_hangs_15 : decode cX6_hangs 15 = .ok (.ireturn, 1) := by decide +kernel
theorem dX6_dip_0 : decode cX6_dip 0 = .ok (.aload_n 0, 1) := by decide +kernel
theorem dX6_dip_1 : decode cX6_dip 1 = .ok (.iconst 0, 1) := by decide +kernel
theorem dX6_dip_2 : decode cX6_dip 2 = .ok (.putfield 30, 3) := by decide +kernel
theorem dX6_dip_5 : decode cX6_dip 5 = .ok (.aload_n 0, 1) := by decide +kernel
theorem dX6_dip_6 : decode cX6_dip 6 = .ok (.iload_n 1, 1) := by decide +kernel
theorem dX6_dip_7 : decode cX6_dip 7 = .ok (.invokevirtual 63, 3) := by decide +kernel
theorem dX6_dip_10 : decode cX6_dip 10 = .ok (.ifCond .ne 9, 3) := by decide +kernel
theorem dX6_dip_13 : decode cX6_dip 13 = .ok (.aload_n 0, 1) := by decide +kernel
theorem dX6_dip_14 : decode cX6_dip 14 = .ok (.iconst 1, 1) := by decide +kernel
theorem dX6_dip_15 : decode cX6_dip 15 = .ok (.invokevirtual 40, 3) := by decide +kernel
theorem dX6_dip_18 : decode cX6_dip 18 = .ok (.ireturn, 1) := by decide +kernel
theorem dX6_dip_19 : decode cX6_dip 19 = .ok (.aload_n 0, 1) := by decide +kernel
theorem dX6_dip_20 : decode cX6_dip 20 = .ok (.iload_n 1, 1) := by decide +kernel
theorem dX6_dip_21 : decode cX6_dip 21 = .ok (.invokevirtual 103, 3) := by decide +kernel
theorem dX6_dip_24 : decode cX6_dip 24 = .ok (.aload_n 0, 1) := by decide +kernel
theorem dX6_dip_25 : decode cX6_dip 25 = .ok (.iload_n 1, 1) := by decide +kernel
theorem dX6_dip_26 : decode cX6_dip 26 = .ok (.invokevirtual 107, 3) := by decide +kernel
theorem dX6_dip_29 : decode cX6_dip 29 = .ok (.ifCond .eq 11, 3) := by decide +kernel
theorem dX6_dip_32 : decode cX6_dip 32 = .ok (.aload_n 0, 1) := by decide +kernel
theorem dX6_dip_33 : decode cX6_dip 33 = .ok (.iload_n 1, 1) := by decide +kernel
theorem dX6_dip_34 : decode cX6_dip 34 = .ok (.invokevirtual 110, 3) := by decide +kernel
theorem dX6_dip_37 : decode cX6_dip 37 = .ok (.ifCond .ne 9, 3) := by decide +kernel
theorem dX6_dip_40 : decode cX6_dip 40 = .ok (.aload_n 0, 1) := by decide +kernel
theorem dX6_dip_41 : decode cX6_dip 41 = .ok (.iconst 2, 1) := by decide +kernel
theorem dX6_dip_42 : decode cX6_dip 42 = .ok (.invokevirtual 40, 3) := by decide +kernel
theorem dX6_dip_45 : decode cX6_dip 45 = .ok (.ireturn, 1) := by decide +kernel
theorem dX6_dip_46 : decode cX6_dip 46 = .ok (.aload_n 0, 1) := by decide +kernel
theorem dX6_dip_47 : decode cX6_dip 47 = .ok (.iload_n 1, 1) := by decide +kernel
theorem dX6_dip_48 : decode cX6_dip 48 = .ok (.invokevirtual 113, 3) := by decide +kernel
theorem dX6_dip_51 : decode cX6_dip 51 = .ok (.aload_n 0, 1) := by decide +kernel
theorem dX6_dip_52 : decode cX6_dip 52 = .ok (.aload_n 0, 1) := by decide +kernel
theorem dX6_dip_53 : decode cX6_dip 53 = .ok (.getfield 23, 3) := by decide +kernel
theorem dX6_dip_56 : decode cX6_dip 56 = .ok (.iconst 0, 1) := by decide +kernel
theorem dX6_dip_57 : decode cX6_dip 57 = .ok (.iaload, 1) := by decide +kernel
theorem dX6_dip_58 : decode cX6_dip 58 = .ok (.putfield 44, 3) := by decide +kernel
theorem dX6_dip_61 : decode cX6_dip 61 = .ok (.aload_n 0, 1) := by decide +kernel
theorem dX6_dip_62 : decode cX6_dip 62 = .ok (.iload_n 1, 1) := by decide +kernel
theorem dX6_dip_63 : decode cX6_dip 63 = .ok (.iconst 2, 1) := by decide +kernel
theorem dX6_dip_64 : decode cX6_dip 64 = .ok (.aload_n 0, 1) := by decide +kernel
theorem dX6_dip_65 : decode cX6_dip 65 = .ok (.getfield 23, 3) := by decide +kernel
theorem dX6_dip_68 : decode cX6_dip 68 = .ok (.iconst 2, 1) := by decide +kernel
theorem dX6_dip_69 : decode cX6_dip 69 = .ok (.iaload, 1) := by decide +kernel
theorem dX6_dip_70 : decode cX6_dip 70 = .ok (.invokevirtual 70, 3) := by decide +kernel
theorem dX6_dip_73 : decode cX6_dip 73 = .ok (.aload_n 0, 1) := by decide +kernel
theorem dX6_dip_74 : decode cX6_dip 74 = .ok (.iload_n 1, 1) := by decide +kernel
theorem dX6_dip_75 : decode cX6_dip 75 = .ok (.iconst 3, 1) := by decide +kernel
theorem dX6_dip_76 : decode cX6_dip 76 = .ok (.aload_n 0, 1) := by decide +kernel
theorem dX6_dip_77 : decode cX6_dip 77 = .ok (.getfield 23, 3) := by decide +kernel
theorem dX6_dip_80 : decode cX6_dip 80 = .ok (.iconst 3, 1) := by decide +kernel
theorem dX6_dip_81 : decode cX6_dip 81 = .ok (.iaload, 1) := by decide +kernel
theorem dX6_dip_82 : decode cX6_dip 82 = .ok (.invokevirtual 70, 3) := by decide +kernel
theorem dX6_dip_85 : decode cX6_dip 85 = .ok (.aload_n 0, 1) := by decide +kernel
theorem dX6_dip_86 : decode cX6_dip 86 = .ok (.iload_n 1, 1) := by decide +kernel
theorem dX6_dip_87 : decode cX6_dip 87 = .ok (.iconst 4, 1) := by decide +kernel
theorem dX6_dip_88 : decode cX6_dip 88 = .ok (.aload_n 0, 1) := by decide +kernel
theorem dX6_dip_89 : decode cX6_dip 89 = .ok (.getfield 23, 3) := by decide +kernel
theorem dX6_dip_92 : decode cX6_dip 92 = .ok (.iconst 4, 1) := by decide +kernel
theorem dX6_dip_93 : decode cX6_dip 93 = .ok (.iaload, 1) := by decide +kernel
theorem dX6_dip_94 : decode cX6_dip 94 = .ok (.invokevirtual 70, 3) := by decide +kernel
theorem dX6_dip_97 : decode cX6_dip 97 = .ok (.aload_n 0, 1) := by decide +kernel
theorem dX6_dip_98 : decode cX6_dip 98 = .ok (.iload_n 1, 1) := by decide +kernel
theorem dX6_dip_99 : decode cX6_dip 99 = .ok (.bipush 6, 2) := by decide +kernel
theorem dX6_dip_101 : decode cX6_dip 101 = .ok (.aload_n 0, 1) := by decide +kernel
theorem dX6_dip_102 : decode cX6_dip 102 = .ok (.iload_n 1, 1) := by decide +kernel
theorem dX6_dip_103 : decode cX6_dip 103 = .ok (.bipush 6, 2) := by decide +kernel
theorem dX6_dip_105 : decode cX6_dip 105 = .ok (.invokevirtual 59, 3) := by decide +kernel
theorem dX6_dip_108 : decode cX6_dip 108 = .ok (.iconst 1, 1) := by decide +kernel
theorem dX6_dip_109 : decode cX6_dip 109 = .ok (.iadd, 1) := by decide +kernel
theorem dX6_dip_110 : decode cX6_dip 110 = .ok (.invokevirtual 70, 3) := by decide +kernel
theorem dX6_dip_113 : decode cX6_dip 113 = .ok (.aload_n 0, 1) := by decide +kernel
theorem dX6_dip_114 : decode cX6_dip 114 = .ok (.dup, 1) := by decide +kernel
theorem dX6_dip_115 : decode cX6_dip 115 = .ok (.getfield 116, 3) := by decide +kernel
theorem dX6_dip_118 : decode cX6_dip 118 = .ok (.iconst 1, 1) := by decide +kernel
theorem dX6_dip_119 : decode cX6_dip 119 = .ok (.iadd, 1) := by decide +kernel
theorem dX6_dip_120 : decode cX6_dip 120 = .ok (.putfield 116, 3) := by decide +kernel
theorem dX6_dip_123 : decode cX6_dip 123 = .ok (.aload_n 0, 1) := by decide +kernel
theorem dX6_dip_124 : decode cX6_dip 124 = .ok (.iload_n 1, 1) := by decide +kernel
theorem dX6_dip_125 : decode cX6_dip 125 = .ok (.invokevirtual 119, 3) := by decide +kernel
theorem dX6_dip_128 : decode cX6_dip 128 = .ok (.aload_n 0, 1) := by decide +kernel
theorem dX6_dip_129 : decode cX6_dip 129 = .ok (.iload_n 1, 1) := by decide +kernel
theorem dX6_dip_130 : decode cX6_dip 130 = .ok (.iconst 2, 1) := by decide +kernel
theorem dX6_dip_131 : decode cX6_dip 131 = .ok (.invokevirtual 59, 3) := by decide +kernel
theorem dX6_dip_134 : decode cX6_dip 134 = .ok (.ireturn, 1) := by decide +kernel
theorem dX6_size_0 : decode cX6_size 0 = .ok (.bipush 9, 2) := by decide +kernel
theorem dX6_size_2 : decode cX6_size 2 = .ok (.iload_n 0, 1) := by decide +kernel
theorem dX6_size_3 : decode cX6_size 3 = .ok (.iload_n 1, 1) := by decide +kernel
theorem dX6_size_4 : decode cX6_size 4 = .ok (.iconst 1, 1) := by decide +kernel
theorem dX6_size_5 : decode cX6_size 5 = .ok (.if_icmp .ne 8, 3) := by decide +kernel
theorem dX6_size_8 : decode cX6_size 8 = .ok (.bipush 80, 2) := by decide +kernel
theorem dX6_size_10 : decode cX6_size 10 = .ok (.goto 5, 3) := by decide +kernel
theorem dX6_size_13 : decode cX6_size 13 = .ok (.bipush 40, 2) := by decide +kernel
theorem dX6_size_15 : decode cX6_size 15 = .ok (.idiv, 1) := by decide +kernel
theorem dX6_size_16 : decode cX6_size 16 = .ok (.invokestatic 74, 3) := by decide +kernel
theorem dX6_size_19 : decode cX6_size 19 = .ok (.ireturn, 1) := by decide +kernel
theorem dX6_cutOff_0 : decode cX6_cutOff 0 = .ok (.aload_n 0, 1) := by decide +kernel
theorem dX6_cutOff_1 : decode cX6_cutOff 1 = .ok (.iconst 0, 1) := by decide +kernel
theorem dX6_cutOff_2 : decode cX6_cutOff 2 = .ok (.putfield 30, 3) := by decide +kernel
theorem dX6_cutOff_5 : decode cX6_cutOff 5 = .ok (.aload_n 0, 1) := by decide +kernel
theorem dX6_cutOff_6 : decode cX6_cutOff 6 = .ok (.iload_n 1, 1) := by decide +kernel
theorem dX6_cutOff_7 : decode cX6_cutOff 7 = .ok (.invokevirtual 63, 3) := by decide +kernel
theorem dX6_cutOff_10 : decode cX6_cutOff 10 = .ok (.ifCond .ne 9, 3) := by decide +kernel
theorem dX6_cutOff_13 : decode cX6_cutOff 13 = .ok (.aload_n 0, 1) := by decide +kernel
theorem dX6_cutOff_14 : decode cX6_cutOff 14 = .ok (.iconst 1, 1) := by decide +kernel
theorem dX6_cutOff_15 : decode cX6_cutOff 15 = .ok (.invokevirtual 40, 3) := by decide +kernel
theorem dX6_cutOff_18 : decode cX6_cutOff 18 = .ok (.ireturn, 1) := by decide +kernel
theorem dX6_cutOff_19 : decode cX6_cutOff 19 = .ok (.aload_n 0, 1) := by decide +kernel
theorem dX6_cutOff_20 : decode cX6_cutOff 20 = .ok (.iload_n 1, 1) := by decide +kernel
theorem dX6_cutOff_21 : decode cX6_cutOff 21 = .ok (.iconst 2, 1) := by decide +kernel
theorem dX6_cutOff_22 : decode cX6_cutOff 22 = .ok (.invokevirtual 59, 3) := by decide +kernel
theorem dX6_cutOff_25 : decode cX6_cutOff 25 = .ok (.ifCond .eq 14, 3) := by decide +kernel
theorem dX6_cutOff_28 : decode cX6_cutOff 28 = .ok (.aload_n 0, 1) := by decide +kernel
theorem dX6_cutOff_29 : decode cX6_cutOff 29 = .ok (.iload_n 1, 1) := by decide +kernel
theorem dX6_cutOff_30 : decode cX6_cutOff 30 = .ok (.iconst 3, 1) := by decide +kernel
theorem dX6_cutOff_31 : decode cX6_cutOff 31 = .ok (.invokevirtual 59, 3) := by decide +kernel
theorem dX6_cutOff_34 : decode cX6_cutOff 34 = .ok (.bipush 20, 2) := by decide +kernel
theorem dX6_cutOff_36 : decode cX6_cutOff 36 = .ok (.if_icmp .le 9, 3) := by decide +kernel
theorem dX6_cutOff_39 : decode cX6_cutOff 39 = .ok (.aload_n 0, 1) := by decide +kernel
theorem dX6_cutOff_40 : decode cX6_cutOff 40 = .ok (.iconst 2, 1) := by decide +kernel
theorem dX6_cutOff_41 : decode cX6_cutOff 41 = .ok (.invokevirtual 40, 3) := by decide +kernel
theorem dX6_cutOff_44 : decode cX6_cutOff 44 = .ok (.ireturn, 1) := by decide +kernel
theorem dX6_cutOff_45 : decode cX6_cutOff 45 = .ok (.aload_n 0, 1) := by decide +kernel
theorem dX6_cutOff_46 : decode cX6_cutOff 46 = .ok (.iload_n 1, 1) := by decide +kernel
theorem dX6_cutOff_47 : decode cX6_cutOff 47 = .ok (.iconst 2, 1) := by decide +kernel
theorem dX6_cutOff_48 : decode cX6_cutOff 48 = .ok (.invokevirtual 59, 3) := by decide +kernel
theorem dX6_cutOff_51 : decode cX6_cutOff 51 = .ok (.aload_n 0, 1) := by decide +kernel
theorem dX6_cutOff_52 : decode cX6_cutOff 52 = .ok (.iload_n 1, 1) := by decide +kernel
theorem dX6_cutOff_53 : decode cX6_cutOff 53 = .ok (.iconst 4, 1) := by decide +kernel
theorem dX6_cutOff_54 : decode cX6_cutOff 54 = .ok (.invokevirtual 59, 3) := by decide +kernel
theorem dX6_cutOff_57 : decode cX6_cutOff 57 = .ok (.invokestatic 122, 3) := by decide +kernel
theorem dX6_cutOff_60 : decode cX6_cutOff 60 = .ok (.istore_n 2, 1) := by decide +kernel
theorem dX6_cutOff_61 : decode cX6_cutOff 61 = .ok (.iload_n 2, 1) := by decide +kernel
theorem dX6_cutOff_62 : decode cX6_cutOff 62 = .ok (.ifCond .le 31, 3) := by decide +kernel
theorem dX6_cutOff_65 : decode cX6_cutOff 65 = .ok (.aload_n 0, 1) := by decide +kernel
theorem dX6_cutOff_66 : decode cX6_cutOff 66 = .ok (.getfield 17, 3) := by decide +kernel
theorem dX6_cutOff_69 : decode cX6_cutOff 69 = .ok (.bipush 10, 2) := by decide +kernel
theorem dX6_cutOff_71 : decode cX6_cutOff 71 = .ok (.aload_n 0, 1) := by decide +kernel
theorem dX6_cutOff_72 : decode cX6_cutOff 72 = .ok (.iload_n 1, 1) := by decide +kernel
theorem dX6_cutOff_73 : decode cX6_cutOff 73 = .ok (.iconst 0, 1) := by decide +kernel
theorem dX6_cutOff_74 : decode cX6_cutOff 74 = .ok (.invokevirtual 59, 3) := by decide +kernel
theorem dX6_cutOff_77 : decode cX6_cutOff 77 = .ok (.imul, 1) := by decide +kernel
theorem dX6_cutOff_78 : decode cX6_cutOff 78 = .ok (.iload_n 2, 1) := by decide +kernel
theorem dX6_cutOff_79 : decode cX6_cutOff 79 = .ok (.iadd, 1) := by decide +kernel
theorem dX6_cutOff_80 : decode cX6_cutOff 80 = .ok (.dup2, 1) := by decide +kernel
theorem dX6_cutOff_81 : decode cX6_cutOff 81 = .ok (.iaload, 1) := by decide +kernel
theorem dX6_cutOff_82 : decode cX6_cutOff 82 = .ok (.aload_n 0, 1) := by decide +kernel
theorem dX6_cutOff_83 : decode cX6_cutOff 83 = .ok (.iload_n 1, 1) := by decide +kernel
theorem dX6_cutOff_84 : decode cX6_cutOff 84 = .ok (.iconst 1, 1) := by decide +kernel
theorem dX6_cutOff_85 : decode cX6_cutOff 85 = .ok (.invokevirtual 59, 3) := by decide +kernel
theorem dX6_cutOff_88 : decode cX6_cutOff 88 = .ok (.iadd, 1) := by decide +kernel
theorem dX6_cutOff_89 : decode cX6_cutOff 89 = .ok (.iastore, 1) := by decide +kernel
theorem dX6_cutOff_90 : decode cX6_cutOff 90 = .ok (.goto 29, 3) := by decide +kernel
theorem dX6_cutOff_93 : decode cX6_cutOff 93 = .ok (.aload_n 0, 1) := by decide +kernel
theorem dX6_cutOff_94 : decode cX6_cutOff 94 = .ok (.sipush 20000, 3) := by decide +kernel
theorem dX6_cutOff_97 : decode cX6_cutOff 97 = .ok (.aload_n 0, 1) := by decide +kernel
theorem dX6_cutOff_98 : decode cX6_cutOff 98 = .ok (.getfield 44, 3) := by decide +kernel
theorem dX6_cutOff_101 : decode cX6_cutOff 101 = .ok (.aload_n 0, 1) := by decide +kernel
theorem dX6_cutOff_102 : decode cX6_cutOff 102 = .ok (.iload_n 1, 1) := by decide +kernel
theorem dX6_cutOff_103 : decode cX6_cutOff 103 = .ok (.aload_n 0, 1) := by decide +kernel
theorem dX6_cutOff_104 : decode cX6_cutOff 104 = .ok (.iload_n 1, 1) := by decide +kernel
theorem dX6_cutOff_105 : decode cX6_cutOff 105 = .ok (.iconst 2, 1) := by decide +kernel
theorem dX6_cutOff_106 : decode cX6_cutOff 106 = .ok (.invokevirtual 59, 3) := by decide +kernel
theorem dX6_cutOff_109 : decode cX6_cutOff 109 = .ok (.invokevirtual 82, 3) := by decide +kernel
theorem dX6_cutOff_112 : decode cX6_cutOff 112 = .ok (.iadd, 1) := by decide +kernel
theorem dX6_cutOff_113 : decode cX6_cutOff 113 = .ok (.invokestatic 74, 3) := by decide +kernel
theorem dX6_cutOff_116 : decode cX6_cutOff 116 = .ok (.putfield 44, 3) := by decide +kernel
theorem dX6_cutOff_119 : decode cX6_cutOff 119 = .ok (.aload_n 0, 1) := by decide +kernel
theorem dX6_cutOff_120 : decode cX6_cutOff 120 = .ok (.dup, 1) := by decide +kernel
theorem dX6_cutOff_121 : decode cX6_cutOff 121 = .ok (.getfield 125, 3) := by decide +kernel
theorem dX6_cutOff_124 : decode cX6_cutOff 124 = .ok (.iload_n 2, 1) := by decide +kernel
theorem dX6_cutOff_125 : decode cX6_cutOff 125 = .ok (.ifCond .le 7, 3) := by decide +kernel
theorem dX6_cutOff_128 : decode cX6_cutOff 128 = .ok (.iconst 0, 1) := by decide +kernel
theorem dX6_cutOff_129 : decode cX6_cutOff 129 = .ok (.goto 9, 3) := by decide +kernel
theorem dX6_cutOff_132 : decode cX6_cutOff 132 = .ok (.aload_n 0, 1) := by decide +kernel
theorem dX6_cutOff_133 : decode cX6_cutOff 133 = .ok (.iload_n 1, 1) := by decide +kernel
theorem dX6_cutOff_134 : decode cX6_cutOff 134 = .ok (.iconst 1, 1) := by decide +kernel
theorem dX6_cutOff_135 : decode cX6_cutOff 135 = .ok (.invokevirtual 59, 3) := by decide +kernel
theorem dX6_cutOff_138 : decode cX6_cutOff 138 = .ok (.iadd, 1) := by decide +kernel
theorem dX6_cutOff_139 : decode cX6_cutOff 139 = .ok (.putfield 125, 3) := by decide +kernel
theorem dX6_cutOff_142 : decode cX6_cutOff 142 = .ok (.aload_n 0, 1) := by decide +kernel
theorem dX6_cutOff_143 : decode cX6_cutOff 143 = .ok (.iload_n 1, 1) := by decide +kernel
theorem dX6_cutOff_144 : decode cX6_cutOff 144 = .ok (.iconst 2, 1) := by decide +kernel
theorem dX6_cutOff_145 : decode cX6_cutOff 145 = .ok (.iconst 0, 1) := by decide +kernel
theorem dX6_cutOff_146 : decode cX6_cutOff 146 = .ok (.invokevirtual 70, 3) := by decide +kernel
theorem dX6_cutOff_149 : decode cX6_cutOff 149 = .ok (.aload_n 0, 1) := by decide +kernel
theorem dX6_cutOff_150 : decode cX6_cutOff 150 = .ok (.iload_n 1, 1) := by decide +kernel
theorem dX6_cutOff_151 : decode cX6_cutOff 151 = .ok (.iconst 3, 1) := by decide +kernel
theorem dX6_cutOff_152 : decode cX6_cutOff 152 = .ok (.iconst 0, 1) := by decide +kernel
theorem dX6_cutOff_153 : decode cX6_cutOff 153 = .ok (.invokevirtual 70, 3) := by decide +kernel
theorem dX6_cutOff_156 : decode cX6_cutOff 156 = .ok (.aload_n 0, 1) := by decide +kernel
theorem dX6_cutOff_157 : decode cX6_cutOff 157 = .ok (.iload_n 1, 1) := by decide +kernel
theorem dX6_cutOff_158 : decode cX6_cutOff 158 = .ok (.iconst 4, 1) := by decide +kernel
theorem dX6_cutOff_159 : decode cX6_cutOff 159 = .ok (.iconst 0, 1) := by decide +kernel
theorem dX6_cutOff_160 : decode cX6_cutOff 160 = .ok (.invokevirtual 70, 3) := by decide +kernel
theorem dX6_cutOff_163 : decode cX6_cutOff 163 = .ok (.aload_n 0, 1) := by decide +kernel
theorem dX6_cutOff_164 : decode cX6_cutOff 164 = .ok (.iload_n 1, 1) := by decide +kernel
theorem dX6_cutOff_165 : decode cX6_cutOff 165 = .ok (.bipush 6, 2) := by decide +kernel
theorem dX6_cutOff_167 : decode cX6_cutOff 167 = .ok (.iconst 0, 1) := by decide +kernel
theorem dX6_cutOff_168 : decode cX6_cutOff 168 = .ok (.invokevirtual 70, 3) := by decide +kernel
theorem dX6_cutOff_171 : decode cX6_cutOff 171 = .ok (.iload_n 2, 1) := by decide +kernel
theorem dX6_cutOff_172 : decode cX6_cutOff 172 = .ok (.ireturn, 1) := by decide +kernel
theorem dX6_frameTold_0 : decode cX6_frameTold 0 = .ok (.iload_n 2, 1) := by decide +kernel
theorem dX6_frameTold_1 : decode cX6_frameTold 1 = .ok (.bipush 7, 2) := by decide +kernel
theorem dX6_frameTold_3 : decode cX6_frameTold 3 = .ok (.if_icmp .ge 12, 3) := by decide +kernel
theorem dX6_frameTold_6 : decode cX6_frameTold 6 = .ok (.aload_n 0, 1) := by decide +kernel
theorem dX6_frameTold_7 : decode cX6_frameTold 7 = .ok (.iload_n 1, 1) := by decide +kernel
theorem dX6_frameTold_8 : decode cX6_frameTold 8 = .ok (.iload_n 2, 1) := by decide +kernel
theorem dX6_frameTold_9 : decode cX6_frameTold 9 = .ok (.invokevirtual 59, 3) := by decide +kernel
theorem dX6_frameTold_12 : decode cX6_frameTold 12 = .ok (.goto 18, 3) := by decide +kernel
theorem dX6_frameTold_15 : decode cX6_frameTold 15 = .ok (.aload_n 0, 1) := by decide +kernel
theorem dX6_frameTold_16 : decode cX6_frameTold 16 = .ok (.iload_n 1, 1) := by decide +kernel
theorem dX6_frameTold_17 : decode cX6_frameTold 17 = .ok (.iconst 2, 1) := by decide +kernel
theorem dX6_frameTold_18 : decode cX6_frameTold 18 = .ok (.invokevirtual 59, 3) := by decide +kernel
theorem dX6_frameTold_21 : decode cX6_frameTold 21 = .ok (.aload_n 0, 1) := by decide +kernel
theorem dX6_frameTold_22 : decode cX6_frameTold 22 = .ok (.iload_n 1, 1) := by decide +kernel
theorem dX6_frameTold_23 : decode cX6_frameTold 23 = .ok (.iconst 4, 1) := by decide +kernel
theorem dX6_frameTold_24 : decode cX6_frameTold 24 = .ok (.invokevirtual 59, 3) := by decide +kernel
theorem dX6_frameTold_27 : decode cX6_frameTold 27 = .ok (.invokestatic 122, 3) := by decide +kernel
theorem dX6_frameTold_30 : decode cX6_frameTold 30 = .ok (.ireturn, 1) := by decide +kernel
theorem dX6_frame_0 : decode cX6_frame 0 = .ok (.aload_n 0, 1) := by decide +kernel
theorem dX6_frame_1 : decode cX6_frame 1 = .ok (.iconst 0, 1) := by decide +kernel
theorem dX6_frame_2 : decode cX6_frame 2 = .ok (.putfield 30, 3) := by decide +kernel
theorem dX6_frame_5 : decode cX6_frame 5 = .ok (.aload_n 0, 1) := by decide +kernel
theorem dX6_frame_6 : decode cX6_frame 6 = .ok (.iload_n 1, 1) := by decide +kernel
theorem dX6_frame_7 : decode cX6_frame 7 = .ok (.invokevirtual 63, 3) := by decide +kernel
theorem dX6_frame_10 : decode cX6_frame 10 = .ok (.ifCond .eq 22, 3) := by decide +kernel
theorem dX6_frame_13 : decode cX6_frame 13 = .ok (.iload_n 2, 1) := by decide +kernel
theorem dX6_frame_14 : decode cX6_frame 14 = .ok (.iconst 0, 1) := by decide +kernel
theorem dX6_frame_15 : decode cX6_frame 15 = .ok (.bipush 7, 2) := by decide +kernel
theorem dX6_frame_17 : decode cX6_frame 17 = .ok (.invokestatic 36, 3) := by decide +kernel
theorem dX6_frame_20 : decode cX6_frame 20 = .ok (.ifCond .eq 12, 3) := by decide +kernel
theorem dX6_frame_23 : decode cX6_frame 23 = .ok (.aload_n 0, 1) := by decide +kernel
theorem dX6_frame_24 : decode cX6_frame 24 = .ok (.iload_n 1, 1) := by decide +kernel
theorem dX6_frame_25 : decode cX6_frame 25 = .ok (.iload_n 2, 1) := by decide +kernel
theorem dX6_frame_26 : decode cX6_frame 26 = .ok (.invokevirtual 128, 3) := by decide +kernel
theorem dX6_frame_29 : decode cX6_frame 29 = .ok (.goto 8, 3) := by decide +kernel
theorem dX6_frame_32 : decode cX6_frame 32 = .ok (.aload_n 0, 1) := by decide +kernel
theorem dX6_frame_33 : decode cX6_frame 33 = .ok (.iconst 1, 1) := by decide +kernel
theorem dX6_frame_34 : decode cX6_frame 34 = .ok (.invokevirtual 40, 3) := by decide +kernel
theorem dX6_frame_37 : decode cX6_frame 37 = .ok (.ireturn, 1) := by decide +kernel
theorem dX6_hook_0 : decode cX6_hook 0 = .ok (.aload_n 0, 1) := by decide +kernel
theorem dX6_hook_1 : decode cX6_hook 1 = .ok (.iconst 0, 1) := by decide +kernel
theorem dX6_hook_2 : decode cX6_hook 2 = .ok (.putfield 30, 3) := by decide +kernel
theorem dX6_hook_5 : decode cX6_hook 5 = .ok (.iload_n 1, 1) := by decide +kernel
theorem dX6_hook_6 : decode cX6_hook 6 = .ok (.iconst 0, 1) := by decide +kernel
theorem dX6_hook_7 : decode cX6_hook 7 = .ok (.bipush 11, 2) := by decide +kernel
theorem dX6_hook_9 : decode cX6_hook 9 = .ok (.invokestatic 36, 3) := by decide +kernel
theorem dX6_hook_12 : decode cX6_hook 12 = .ok (.ifCond .eq 11, 3) := by decide +kernel
theorem dX6_hook_15 : decode cX6_hook 15 = .ok (.aload_n 0, 1) := by decide +kernel
theorem dX6_hook_16 : decode cX6_hook 16 = .ok (.iload_n 1, 1) := by decide +kernel
theorem dX6_hook_17 : decode cX6_hook 17 = .ok (.invokevirtual 67, 3) := by decide +kernel
theorem dX6_hook_20 : decode cX6_hook 20 = .ok (.goto 8, 3) := by decide +kernel
theorem dX6_hook_23 : decode cX6_hook 23 = .ok (.aload_n 0, 1) := by decide +kernel
theorem dX6_hook_24 : decode cX6_hook 24 = .ok (.iconst 1, 1) := by decide +kernel
theorem dX6_hook_25 : decode cX6_hook 25 = .ok (.invokevirtual 40, 3) := by decide +kernel
theorem dX6_hook_28 : decode cX6_hook 28 = .ok (.ireturn, 1) := by decide +kernel
theorem dX6_store_0 : decode cX6_store 0 = .ok (.aload_n 0, 1) := by decide +kernel
theorem dX6_store_1 : decode cX6_store 1 = .ok (.iconst 0, 1) := by decide +kernel
theorem dX6_store_2 : decode cX6_store 2 = .ok (.putfield 30, 3) := by decide +kernel
theorem dX6_store_5 : decode cX6_store 5 = .ok (.iload_n 1, 1) := by decide +kernel
theorem dX6_store_6 : decode cX6_store 6 = .ok (.iconst 0, 1) := by decide +kernel
theorem dX6_store_7 : decode cX6_store 7 = .ok (.iconst 3, 1) := by decide +kernel
theorem dX6_store_8 : decode cX6_store 8 = .ok (.invokestatic 36, 3) := by decide +kernel
theorem dX6_store_11 : decode cX6_store 11 = .ok (.ifCond .eq 27, 3) := by decide +kernel
theorem dX6_store_14 : decode cX6_store 14 = .ok (.iload_n 2, 1) := by decide +kernel
theorem dX6_store_15 : decode cX6_store 15 = .ok (.iconst 1, 1) := by decide +kernel
theorem dX6_store_16 : decode cX6_store 16 = .ok (.bipush 9, 2) := by decide +kernel
theorem dX6_store_18 : decode cX6_store 18 = .ok (.invokestatic 36, 3) := by decide +kernel
theorem dX6_store_21 : decode cX6_store 21 = .ok (.ifCond .eq 17, 3) := by decide +kernel
theorem dX6_store_24 : decode cX6_store 24 = .ok (.aload_n 0, 1) := by decide +kernel
theorem dX6_store_25 : decode cX6_store 25 = .ok (.getfield 17, 3) := by decide +kernel
theorem dX6_store_28 : decode cX6_store 28 = .ok (.bipush 10, 2) := by decide +kernel
theorem dX6_store_30 : decode cX6_store 30 = .ok (.iload_n 1, 1) := by decide +kernel
theorem dX6_store_31 : decode cX6_store 31 = .ok (.imul, 1) := by decide +kernel
theorem dX6_store_32 : decode cX6_store 32 = .ok (.iload_n 2, 1) := by decide +kernel
theorem dX6_store_33 : decode cX6_store 33 = .ok (.iadd, 1) := by decide +kernel
theorem dX6_store_34 : decode cX6_store 34 = .ok (.iaload, 1) := by decide +kernel
theorem dX6_store_35 : decode cX6_store 35 = .ok (.goto 8, 3) := by decide +kernel
theorem dX6_store_38 : decode cX6_store 38 = .ok (.aload_n 0, 1) := by decide +kernel
theorem dX6_store_39 : decode cX6_store 39 = .ok (.iconst 1, 1) := by decide +kernel
theorem dX6_store_40 : decode cX6_store 40 = .ok (.invokevirtual 40, 3) := by decide +kernel
theorem dX6_store_43 : decode cX6_store 43 = .ok (.ireturn, 1) := by decide +kernel
theorem dX6_enough_0 : decode cX6_enough 0 = .ok (.iconst 0, 1) := by decide +kernel
theorem dX6_enough_1 : decode cX6_enough 1 = .ok (.istore_n 3, 1) := by decide +kernel
theorem dX6_enough_2 : decode cX6_enough 2 = .ok (.iload_n 2, 1) := by decide +kernel
theorem dX6_enough_3 : decode cX6_enough 3 = .ok (.istore 4, 2) := by decide +kernel
theorem dX6_enough_5 : decode cX6_enough 5 = .ok (.iload 4, 2) := by decide +kernel
theorem dX6_enough_7 : decode cX6_enough 7 = .ok (.bipush 10, 2) := by decide +kernel
theorem dX6_enough_9 : decode cX6_enough 9 = .ok (.if_icmp .ge 24, 3) := by decide +kernel
theorem dX6_enough_12 : decode cX6_enough 12 = .ok (.iload_n 3, 1) := by decide +kernel
theorem dX6_enough_13 : decode cX6_enough 13 = .ok (.aload_n 0, 1) := by decide +kernel
theorem dX6_enough_14 : decode cX6_enough 14 = .ok (.getfield 17, 3) := by decide +kernel
theorem dX6_enough_17 : decode cX6_enough 17 = .ok (.bipush 10, 2) := by decide +kernel
theorem dX6_enough_19 : decode cX6_enough 19 = .ok (.iload_n 1, 1) := by decide +kernel
theorem dX6_enough_20 : decode cX6_enough 20 = .ok (.imul, 1) := by decide +kernel
theorem dX6_enough_21 : decode cX6_enough 21 = .ok (.iload 4, 2) := by decide +kernel
theorem dX6_enough_23 : decode cX6_enough 23 = .ok (.iadd, 1) := by decide +kernel
theorem dX6_enough_24 : decode cX6_enough 24 = .ok (.iaload, 1) := by decide +kernel
theorem dX6_enough_25 : decode cX6_enough 25 = .ok (.iadd, 1) := by decide +kernel
theorem dX6_enough_26 : decode cX6_enough 26 = .ok (.istore_n 3, 1) := by decide +kernel
theorem dX6_enough_27 : decode cX6_enough 27 = .ok (.iinc 4 1, 3) := by decide +kernel
theorem dX6_enough_30 : decode cX6_enough 30 = .ok (.goto (-25), 3) := by decide +kernel
theorem dX6_enough_33 : decode cX6_enough 33 = .ok (.iload_n 3, 1) := by decide +kernel
theorem dX6_enough_34 : decode cX6_enough 34 = .ok (.ireturn, 1) := by decide +kernel
theorem dX6_addOrder_0 : decode cX6_addOrder 0 = .ok (.aload_n 0, 1) := by decide +kernel
theorem dX6_addOrder_1 : decode cX6_addOrder 1 = .ok (.iconst 0, 1) := by decide +kernel
theorem dX6_addOrder_2 : decode cX6_addOrder 2 = .ok (.putfield 30, 3) := by decide +kernel
theorem dX6_addOrder_5 : decode cX6_addOrder 5 = .ok (.iload_n 1, 1) := by decide +kernel
theorem dX6_addOrder_6 : decode cX6_addOrder 6 = .ok (.iconst 0, 1) := by decide +kernel
theorem dX6_addOrder_7 : decode cX6_addOrder 7 = .ok (.iconst 3, 1) := by decide +kernel
theorem dX6_addOrder_8 : decode cX6_addOrder 8 = .ok (.invokestatic 36, 3) := by decide +kernel
theorem dX6_addOrder_11 : decode cX6_addOrder 11 = .ok (.ifCond .eq 41, 3) := by decide +kernel
theorem dX6_addOrder_14 : decode cX6_addOrder 14 = .ok (.iload_n 2, 1) := by decide +kernel
theorem dX6_addOrder_15 : decode cX6_addOrder 15 = .ok (.iconst 1, 1) := by decide +kernel
theorem dX6_addOrder_16 : decode cX6_addOrder 16 = .ok (.bipush 9, 2) := by decide +kernel
theorem dX6_addOrder_18 : decode cX6_addOrder 18 = .ok (.invokestatic 36, 3) := by decide +kernel
theorem dX6_addOrder_21 : decode cX6_addOrder 21 = .ok (.ifCond .eq 31, 3) := by decide +kernel
theorem dX6_addOrder_24 : decode cX6_addOrder 24 = .ok (.iload_n 3, 1) := by decide +kernel
theorem dX6_addOrder_25 : decode cX6_addOrder 25 = .ok (.iconst 1, 1) := by decide +kernel
theorem dX6_addOrder_26 : decode cX6_addOrder 26 = .ok (.bipush 60, 2) := by decide +kernel
theorem dX6_addOrder_28 : decode cX6_addOrder 28 = .ok (.invokestatic 36, 3) := by decide +kernel
theorem dX6_addOrder_31 : decode cX6_addOrder 31 = .ok (.ifCond .eq 21, 3) := by decide +kernel
theorem dX6_addOrder_34 : decode cX6_addOrder 34 = .ok (.iload 4, 2) := by decide +kernel
theorem dX6_addOrder_36 : decode cX6_addOrder 36 = .ok (.aload_n 0, 1) := by decide +kernel
theorem dX6_addOrder_37 : decode cX6_addOrder 37 = .ok (.getfield 94, 3) := by decide +kernel
theorem dX6_addOrder_40 : decode cX6_addOrder 40 = .ok (.bipush 40, 2) := by decide +kernel
theorem dX6_addOrder_42 : decode cX6_addOrder 42 = .ok (.idiv, 1) := by decide +kernel
theorem dX6_addOrder_43 : decode cX6_addOrder 43 = .ok (.sipush 1000, 3) := by decide +kernel
theorem dX6_addOrder_46 : decode cX6_addOrder 46 = .ok (.invokestatic 36, 3) := by decide +kernel
theorem dX6_addOrder_49 : decode cX6_addOrder 49 = .ok (.ifCond .ne 9, 3) := by decide +kernel
theorem dX6_addOrder_52 : decode cX6_addOrder 52 = .ok (.aload_n 0, 1) := by decide +kernel
theorem dX6_addOrder_53 : decode cX6_addOrder 53 = .ok (.iconst 1, 1) := by decide +kernel
theorem dX6_addOrder_54 : decode cX6_addOrder 54 = .ok (.invokevirtual 40, 3) := by decide +kernel
theorem dX6_addOrder_57 : decode cX6_addOrder 57 = .ok (.ireturn, 1) := by decide +kernel
theorem dX6_addOrder_58 : decode cX6_addOrder 58 = .ok (.aload_n 0, 1) := by decide +kernel
theorem dX6_addOrder_59 : decode cX6_addOrder 59 = .ok (.getfield 97, 3) := by decide +kernel
theorem dX6_addOrder_62 : decode cX6_addOrder 62 = .ok (.bipush 20, 2) := by decide +kernel
theorem dX6_addOrder_64 : decode cX6_addOrder 64 = .ok (.if_icmp .ne 9, 3) := by decide +kernel
theorem dX6_addOrder_67 : decode cX6_addOrder 67 = .ok (.aload_n 0, 1) := by decide +kernel
theorem dX6_addOrder_68 : decode cX6_addOrder 68 = .ok (.iconst 2, 1) := by decide +kernel
theorem dX6_addOrder_69 : decode cX6_addOrder 69 = .ok (.invokevirtual 40, 3) := by decide +kernel
theorem dX6_addOrder_72 : decode cX6_addOrder 72 = .ok (.ireturn, 1) := by decide +kernel
theorem dX6_addOrder_73 : decode cX6_addOrder 73 = .ok (.iconst 5, 1) := by decide +kernel
theorem dX6_addOrder_74 : decode cX6_addOrder 74 = .ok (.newarray .int, 2) := by decide +kernel
theorem dX6_addOrder_76 : decode cX6_addOrder 76 = .ok (.dup, 1) := by decide +kernel
theorem dX6_addOrder_77 : decode cX6_addOrder 77 = .ok (.iconst 0, 1) := by decide +kernel
theorem dX6_addOrder_78 : decode cX6_addOrder 78 = .ok (.iload_n 1, 1) := by decide +kernel
theorem dX6_addOrder_79 : decode cX6_addOrder 79 = .ok (.iastore, 1) := by decide +kernel
theorem dX6_addOrder_80 : decode cX6_addOrder 80 = .ok (.dup, 1) := by decide +kernel
theorem dX6_addOrder_81 : decode cX6_addOrder 81 = .ok (.iconst 1, 1) := by decide +kernel
theorem dX6_addOrder_82 : decode cX6_addOrder 82 = .ok (.iload_n 2, 1) := by decide +kernel
theorem dX6_addOrder_83 : decode cX6_addOrder 83 = .ok (.iastore, 1) := by decide +kernel
theorem dX6_addOrder_84 : decode cX6_addOrder 84 = .ok (.dup, 1) := by decide +kernel
theorem dX6_addOrder_85 : decode cX6_addOrder 85 = .ok (.iconst 2, 1) := by decide +kernel
theorem dX6_addOrder_86 : decode cX6_addOrder 86 = .ok (.iload_n 3, 1) := by decide +kernel
theorem dX6_addOrder_87 : decode cX6_addOrder 87 = .ok (.iastore, 1) := by decide +kernel
theorem dX6_addOrder_88 : decode cX6_addOrder 88 = .ok (.dup, 1) := by decide +kernel
theorem dX6_addOrder_89 : decode cX6_addOrder 89 = .ok (.iconst 3, 1) := by decide +kernel
theorem dX6_addOrder_90 : decode cX6_addOrder 90 = .ok (.iload 4, 2) := by decide +kernel
theorem dX6_addOrder_92 : decode cX6_addOrder 92 = .ok (.iastore, 1) := by decide +kernel
theorem dX6_addOrder_93 : decode cX6_addOrder 93 = .ok (.dup, 1) := by decide +kernel
theorem dX6_addOrder_94 : decode cX6_addOrder 94 = .ok (.iconst 4, 1) := by decide +kernel
theorem dX6_addOrder_95 : decode cX6_addOrder 95 = .ok (.iconst 0, 1) := by decide +kernel
theorem dX6_addOrder_96 : decode cX6_addOrder 96 = .ok (.iastore, 1) := by decide +kernel
theorem dX6_addOrder_97 : decode cX6_addOrder 97 = .ok (.astore 5, 2) := by decide +kernel
theorem dX6_addOrder_99 : decode cX6_addOrder 99 = .ok (.aload 5, 2) := by decide +kernel
theorem dX6_addOrder_101 : decode cX6_addOrder 101 = .ok (.iconst 0, 1) := by decide +kernel
theorem dX6_addOrder_102 : decode cX6_addOrder 102 = .ok (.aload_n 0, 1) := by decide +kernel
theorem dX6_addOrder_103 : decode cX6_addOrder 103 = .ok (.getfield 20, 3) := by decide +kernel
theorem dX6_addOrder_106 : decode cX6_addOrder 106 = .ok (.iconst 5, 1) := by decide +kernel
theorem dX6_addOrder_107 : decode cX6_addOrder 107 = .ok (.aload_n 0, 1) := by decide +kernel
theorem dX6_addOrder_108 : decode cX6_addOrder 108 = .ok (.getfield 97, 3) := by decide +kernel
theorem dX6_addOrder_111 : decode cX6_addOrder 111 = .ok (.imul, 1) := by decide +kernel
theorem dX6_addOrder_112 : decode cX6_addOrder 112 = .ok (.iconst 5, 1) := by decide +kernel
theorem dX6_addOrder_113 : decode cX6_addOrder 113 = .ok (.invokestatic 53, 3) := by decide +kernel
theorem dX6_addOrder_116 : decode cX6_addOrder 116 = .ok (.aload_n 0, 1) := by decide +kernel
theorem dX6_addOrder_117 : decode cX6_addOrder 117 = .ok (.dup, 1) := by decide +kernel
theorem dX6_addOrder_118 : decode cX6_addOrder 118 = .ok (.getfield 97, 3) := by decide +kernel
theorem dX6_addOrder_121 : decode cX6_addOrder 121 = .ok (.iconst 1, 1) := by decide +kernel
theorem dX6_addOrder_122 : decode cX6_addOrder 122 = .ok (.iadd, 1) := by decide +kernel
theorem dX6_addOrder_123 : decode cX6_addOrder 123 = .ok (.putfield 97, 3) := by decide +kernel
theorem dX6_addOrder_126 : decode cX6_addOrder 126 = .ok (.aload_n 0, 1) := by decide +kernel
theorem dX6_addOrder_127 : decode cX6_addOrder 127 = .ok (.getfield 97, 3) := by decide +kernel
theorem dX6_addOrder_130 : decode cX6_addOrder 130 = .ok (.iconst 1, 1) := by decide +kernel
theorem dX6_addOrder_131 : decode cX6_addOrder 131 = .ok (.isub, 1) := by decide +kernel
theorem dX6_addOrder_132 : decode cX6_addOrder 132 = .ok (.ireturn, 1) := by decide +kernel
theorem dX6_canFill_0 : decode cX6_canFill 0 = .ok (.aload_n 0, 1) := by decide +kernel
theorem dX6_canFill_1 : decode cX6_canFill 1 = .ok (.iload_n 1, 1) := by decide +kernel
theorem dX6_canFill_2 : decode cX6_canFill 2 = .ok (.iconst 4, 1) := by decide +kernel
theorem dX6_canFill_3 : decode cX6_canFill 3 = .ok (.invokevirtual 100, 3) := by decide +kernel
theorem dX6_canFill_6 : decode cX6_canFill 6 = .ok (.iconst 1, 1) := by decide +kernel
theorem dX6_canFill_7 : decode cX6_canFill 7 = .ok (.if_icmp .eq 32, 3) := by decide +kernel
theorem dX6_canFill_10 : decode cX6_canFill 10 = .ok (.aload_n 0, 1) := by decide +kernel
theorem dX6_canFill_11 : decode cX6_canFill 11 = .ok (.aload_n 0, 1) := by decide +kernel
theorem dX6_canFill_12 : decode cX6_canFill 12 = .ok (.iload_n 1, 1) := by decide +kernel
theorem dX6_canFill_13 : decode cX6_canFill 13 = .ok (.iconst 0, 1) := by decide +kernel
theorem dX6_canFill_14 : decode cX6_canFill 14 = .ok (.invokevirtual 100, 3) := by decide +kernel
theorem dX6_canFill_17 : decode cX6_canFill 17 = .ok (.aload_n 0, 1) := by decide +kernel
theorem dX6_canFill_18 : decode cX6_canFill 18 = .ok (.iload_n 1, 1) := by decide +kernel
theorem dX6_canFill_19 : decode cX6_canFill 19 = .ok (.iconst 1, 1) := by decide +kernel
theorem dX6_canFill_20 : decode cX6_canFill 20 = .ok (.invokevirtual 100, 3) := by decide +kernel
theorem dX6_canFill_23 : decode cX6_canFill 23 = .ok (.invokevirtual 131, 3) := by decide +kernel
theorem dX6_canFill_26 : decode cX6_canFill 26 = .ok (.aload_n 0, 1) := by decide +kernel
theorem dX6_canFill_27 : decode cX6_canFill 27 = .ok (.iload_n 1, 1) := by decide +kernel
theorem dX6_canFill_28 : decode cX6_canFill 28 = .ok (.iconst 2, 1) := by decide +kernel
theorem dX6_canFill_29 : decode cX6_canFill 29 = .ok (.invokevirtual 100, 3) := by decide +kernel
theorem dX6_canFill_32 : decode cX6_canFill 32 = .ok (.if_icmp .lt 7, 3) := by decide +kernel
theorem dX6_canFill_35 : decode cX6_canFill 35 = .ok (.iconst 1, 1) := by decide +kernel
theorem dX6_canFill_36 : decode cX6_canFill 36 = .ok (.goto 4, 3) := by decide +kernel
theorem dX6_canFill_39 : decode cX6_canFill 39 = .ok (.iconst 0, 1) := by decide +kernel
theorem dX6_canFill_40 : decode cX6_canFill 40 = .ok (.ireturn, 1) := by decide +kernel
theorem dX6_inStore_0 : decode cX6_inStore 0 = .ok (.iconst 0, 1) := by decide +kernel
theorem dX6_inStore_1 : decode cX6_inStore 1 = .ok (.istore_n 1, 1) := by decide +kernel
theorem dX6_inStore_2 : decode cX6_inStore 2 = .ok (.aload_n 0, 1) := by decide +kernel
theorem dX6_inStore_3 : decode cX6_inStore 3 = .ok (.getfield 17, 3) := by decide +kernel
theorem dX6_inStore_6 : decode cX6_inStore 6 = .ok (.astore_n 2, 1) := by decide +kernel
theorem dX6_inStore_7 : decode cX6_inStore 7 = .ok (.aload_n 2, 1) := by decide +kernel
theorem dX6_inStore_8 : decode cX6_inStore 8 = .ok (.arraylength, 1) := by decide +kernel
theorem dX6_inStore_9 : decode cX6_inStore 9 = .ok (.istore_n 3, 1) := by decide +kernel
theorem dX6_inStore_10 : decode cX6_inStore 10 = .ok (.iconst 0, 1) := by decide +kernel
theorem dX6_inStore_11 : decode cX6_inStore 11 = .ok (.istore 4, 2) := by decide +kernel
theorem dX6_inStore_13 : decode cX6_inStore 13 = .ok (.iload 4, 2) := by decide +kernel
theorem dX6_inStore_15 : decode cX6_inStore 15 = .ok (.iload_n 3, 1) := by decide +kernel
theorem dX6_inStore_16 : decode cX6_inStore 16 = .ok (.if_icmp .ge 20, 3) := by decide +kernel
theorem dX6_inStore_19 : decode cX6_inStore 19 = .ok (.aload_n 2, 1) := by decide +kernel
theorem dX6_inStore_20 : decode cX6_inStore 20 = .ok (.iload 4, 2) := by decide +kernel
theorem dX6_inStore_22 : decode cX6_inStore 22 = .ok (.iaload, 1) := by decide +kernel
theorem dX6_inStore_23 : decode cX6_inStore 23 = .ok (.istore 5, 2) := by decide +kernel
theorem dX6_inStore_25 : decode cX6_inStore 25 = .ok (.iload_n 1, 1) := by decide +kernel
theorem dX6_inStore_26 : decode cX6_inStore 26 = .ok (.iload 5, 2) := by decide +kernel
theorem dX6_inStore_28 : decode cX6_inStore 28 = .ok (.iadd, 1) := by decide +kernel
theorem dX6_inStore_29 : decode cX6_inStore 29 = .ok (.istore_n 1, 1) := by decide +kernel
theorem dX6_inStore_30 : decode cX6_inStore 30 = .ok (.iinc 4 1, 3) := by decide +kernel
theorem dX6_inStore_33 : decode cX6_inStore 33 = .ok (.goto (-20), 3) := by decide +kernel
theorem dX6_inStore_36 : decode cX6_inStore 36 = .ok (.iload_n 1, 1) := by decide +kernel
theorem dX6_inStore_37 : decode cX6_inStore 37 = .ok (.ireturn, 1) := by decide +kernel
theorem dX6_fill_0 : decode cX6_fill 0 = .ok (.aload_n 0, 1) := by decide +kernel
theorem dX6_fill_1 : decode cX6_fill 1 = .ok (.iconst 0, 1) := by decide +kernel
theorem dX6_fill_2 : decode cX6_fill 2 = .ok (.putfield 30, 3) := by decide +kernel
theorem dX6_fill_5 : decode cX6_fill 5 = .ok (.iload_n 1, 1) := by decide +kernel
theorem dX6_fill_6 : decode cX6_fill 6 = .ok (.iconst 0, 1) := by decide +kernel
theorem dX6_fill_7 : decode cX6_fill 7 = .ok (.aload_n 0, 1) := by decide +kernel
theorem dX6_fill_8 : decode cX6_fill 8 = .ok (.getfield 97, 3) := by decide +kernel
theorem dX6_fill_11 : decode cX6_fill 11 = .ok (.iconst 1, 1) := by decide +kernel
theorem dX6_fill_12 : decode cX6_fill 12 = .ok (.isub, 1) := by decide +kernel
theorem dX6_fill_13 : decode cX6_fill 13 = .ok (.invokestatic 36, 3) := by decide +kernel
theorem dX6_fill_16 : decode cX6_fill 16 = .ok (.ifCond .ne 9, 3) := by decide +kernel
theorem dX6_fill_19 : decode cX6_fill 19 = .ok (.aload_n 0, 1) := by decide +kernel
theorem dX6_fill_20 : decode cX6_fill 20 = .ok (.iconst 1, 1) := by decide +kernel
theorem dX6_fill_21 : decode cX6_fill 21 = .ok (.invokevirtual 40, 3) := by decide +kernel
theorem dX6_fill_24 : decode cX6_fill 24 = .ok (.ireturn, 1) := by decide +kernel
theorem dX6_fill_25 : decode cX6_fill 25 = .ok (.aload_n 0, 1) := by decide +kernel
theorem dX6_fill_26 : decode cX6_fill 26 = .ok (.iload_n 1, 1) := by decide +kernel
theorem dX6_fill_27 : decode cX6_fill 27 = .ok (.invokevirtual 134, 3) := by decide +kernel
theorem dX6_fill_30 : decode cX6_fill 30 = .ok (.ifCond .ne 9, 3) := by decide +kernel
theorem dX6_fill_33 : decode cX6_fill 33 = .ok (.aload_n 0, 1) := by decide +kernel
theorem dX6_fill_34 : decode cX6_fill 34 = .ok (.iconst 2, 1) := by decide +kernel
theorem dX6_fill_35 : decode cX6_fill 35 = .ok (.invokevirtual 40, 3) := by decide +kernel
theorem dX6_fill_38 : decode cX6_fill 38 = .ok (.ireturn, 1) := by decide +kernel
theorem dX6_fill_39 : decode cX6_fill 39 = .ok (.aload_n 0, 1) := by decide +kernel
theorem dX6_fill_40 : decode cX6_fill 40 = .ok (.iload_n 1, 1) := by decide +kernel
theorem dX6_fill_41 : decode cX6_fill 41 = .ok (.iconst 2, 1) := by decide +kernel
theorem dX6_fill_42 : decode cX6_fill 42 = .ok (.invokevirtual 100, 3) := by decide +kernel
theorem dX6_fill_45 : decode cX6_fill 45 = .ok (.istore_n 2, 1) := by decide +kernel
theorem dX6_fill_46 : decode cX6_fill 46 = .ok (.aload_n 0, 1) := by decide +kernel
theorem dX6_fill_47 : decode cX6_fill 47 = .ok (.iload_n 1, 1) := by decide +kernel
theorem dX6_fill_48 : decode cX6_fill 48 = .ok (.iconst 1, 1) := by decide +kernel
theorem dX6_fill_49 : decode cX6_fill 49 = .ok (.invokevirtual 100, 3) := by decide +kernel
theorem dX6_fill_52 : decode cX6_fill 52 = .ok (.istore_n 3, 1) := by decide +kernel
theorem dX6_fill_53 : decode cX6_fill 53 = .ok (.iload_n 2, 1) := by decide +kernel
theorem dX6_fill_54 : decode cX6_fill 54 = .ok (.ifCond .le 52, 3) := by decide +kernel
theorem dX6_fill_57 : decode cX6_fill 57 = .ok (.bipush 10, 2) := by decide +kernel
theorem dX6_fill_59 : decode cX6_fill 59 = .ok (.aload_n 0, 1) := by decide +kernel
theorem dX6_fill_60 : decode cX6_fill 60 = .ok (.iload_n 1, 1) := by decide +kernel
theorem dX6_fill_61 : decode cX6_fill 61 = .ok (.iconst 0, 1) := by decide +kernel
theorem dX6_fill_62 : decode cX6_fill 62 = .ok (.invokevirtual 100, 3) := by decide +kernel
theorem dX6_fill_65 : decode cX6_fill 65 = .ok (.imul, 1) := by decide +kernel
theorem dX6_fill_66 : decode cX6_fill 66 = .ok (.iload_n 3, 1) := by decide +kernel
theorem dX6_fill_67 : decode cX6_fill 67 = .ok (.iadd, 1) := by decide +kernel
theorem dX6_fill_68 : decode cX6_fill 68 = .ok (.istore 4, 2) := by decide +kernel
theorem dX6_fill_70 : decode cX6_fill 70 = .ok (.iload_n 2, 1) := by decide +kernel
theorem dX6_fill_71 : decode cX6_fill 71 = .ok (.aload_n 0, 1) := by decide +kernel
theorem dX6_fill_72 : decode cX6_fill 72 = .ok (.getfield 17, 3) := by decide +kernel
theorem dX6_fill_75 : decode cX6_fill 75 = .ok (.iload 4, 2) := by decide +kernel
theorem dX6_fill_77 : decode cX6_fill 77 = .ok (.iaload, 1) := by decide +kernel
theorem dX6_fill_78 : decode cX6_fill 78 = .ok (.invokestatic 74, 3) := by decide +kernel
theorem dX6_fill_81 : decode cX6_fill 81 = .ok (.istore 5, 2) := by decide +kernel
theorem dX6_fill_83 : decode cX6_fill 83 = .ok (.aload_n 0, 1) := by decide +kernel
theorem dX6_fill_84 : decode cX6_fill 84 = .ok (.getfield 17, 3) := by decide +kernel
theorem dX6_fill_87 : decode cX6_fill 87 = .ok (.iload 4, 2) := by decide +kernel
theorem dX6_fill_89 : decode cX6_fill 89 = .ok (.dup2, 1) := by decide +kernel
theorem dX6_fill_90 : decode cX6_fill 90 = .ok (.iaload, 1) := by decide +kernel
theorem dX6_fill_91 : decode cX6_fill 91 = .ok (.iload 5, 2) := by decide +kernel
theorem dX6_fill_93 : decode cX6_fill 93 = .ok (.isub, 1) := by decide +kernel
theorem dX6_fill_94 : decode cX6_fill 94 = .ok (.iastore, 1) := by decide +kernel
theorem dX6_fill_95 : decode cX6_fill 95 = .ok (.iload_n 2, 1) := by decide +kernel
theorem dX6_fill_96 : decode cX6_fill 96 = .ok (.iload 5, 2) := by decide +kernel
theorem dX6_fill_98 : decode cX6_fill 98 = .ok (.isub, 1) := by decide +kernel
theorem dX6_fill_99 : decode cX6_fill 99 = .ok (.istore_n 2, 1) := by decide +kernel
theorem dX6_fill_100 : decode cX6_fill 100 = .ok (.iinc 3 1, 3) := by decide +kernel
theorem dX6_fill_103 : decode cX6_fill 103 = .ok (.goto (-50), 3) := by decide +kernel
theorem dX6_fill_106 : decode cX6_fill 106 = .ok (.aload_n 0, 1) := by decide +kernel
theorem dX6_fill_107 : decode cX6_fill 107 = .ok (.getfield 20, 3) := by decide +kernel
theorem dX6_fill_110 : decode cX6_fill 110 = .ok (.iconst 5, 1) := by decide +kernel
theorem dX6_fill_111 : decode cX6_fill 111 = .ok (.iload_n 1, 1) := by decide +kernel
theorem dX6_fill_112 : decode cX6_fill 112 = .ok (.imul, 1) := by decide +kernel
theorem dX6_fill_113 : decode cX6_fill 113 = .ok (.iconst 4, 1) := by decide +kernel
theorem dX6_fill_114 : decode cX6_fill 114 = .ok (.iadd, 1) := by decide +kernel
theorem dX6_fill_115 : decode cX6_fill 115 = .ok (.iconst 1, 1) := by decide +kernel
theorem dX6_fill_116 : decode cX6_fill 116 = .ok (.iastore, 1) := by decide +kernel
theorem dX6_fill_117 : decode cX6_fill 117 = .ok (.aload_n 0, 1) := by decide +kernel
theorem dX6_fill_118 : decode cX6_fill 118 = .ok (.invokevirtual 137, 3) := by decide +kernel
theorem dX6_fill_121 : decode cX6_fill 121 = .ok (.ireturn, 1) := by decide +kernel
theorem dX6_orderTold_0 : decode cX6_orderTold 0 = .ok (.iload_n 2, 1) := by decide +kernel
theorem dX6_orderTold_1 : decode cX6_orderTold 1 = .ok (.iconst 5, 1) := by decide +kernel
theorem dX6_orderTold_2 : decode cX6_orderTold 2 = .ok (.if_icmp .ge 12, 3) := by decide +kernel
theorem dX6_orderTold_5 : decode cX6_orderTold 5 = .ok (.aload_n 0, 1) := by decide +kernel
theorem dX6_orderTold_6 : decode cX6_orderTold 6 = .ok (.iload_n 1, 1) := by decide +kernel
theorem dX6_orderTold_7 : decode cX6_orderTold 7 = .ok (.iload_n 2, 1) := by decide +kernel
theorem dX6_orderTold_8 : decode cX6_orderTold 8 = .ok (.invokevirtual 100, 3) := by decide +kernel
theorem dX6_orderTold_11 : decode cX6_orderTold 11 = .ok (.goto 16, 3) := by decide +kernel
theorem dX6_orderTold_14 : decode cX6_orderTold 14 = .ok (.aload_n 0, 1) := by decide +kernel
theorem dX6_orderTold_15 : decode cX6_orderTold 15 = .ok (.iload_n 1, 1) := by decide +kernel
theorem dX6_orderTold_16 : decode cX6_orderTold 16 = .ok (.invokevirtual 134, 3) := by decide +kernel
theorem dX6_orderTold_19 : decode cX6_orderTold 19 = .ok (.ifCond .eq 7, 3) := by decide +kernel
theorem dX6_orderTold_22 : decode cX6_orderTold 22 = .ok (.iconst 1, 1) := by decide +kernel
theorem dX6_orderTold_23 : decode cX6_orderTold 23 = .ok (.goto 4, 3) := by decide +kernel
theorem dX6_orderTold_26 : decode cX6_orderTold 26 = .ok (.iconst 0, 1) := by decide +kernel
theorem dX6_orderTold_27 : decode cX6_orderTold 27 = .ok (.ireturn, 1) := by decide +kernel
theorem dX6_order_0 : decode cX6_order 0 = .ok (.aload_n 0, 1) := by decide +kernel
theorem dX6_order_1 : decode cX6_order 1 = .ok (.iconst 0, 1) := by decide +kernel
theorem dX6_order_2 : decode cX6_order 2 = .ok (.putfield 30, 3) := by decide +kernel
theorem dX6_order_5 : decode cX6_order 5 = .ok (.iload_n 1, 1) := by decide +kernel
theorem dX6_order_6 : decode cX6_order 6 = .ok (.iconst 0, 1) := by decide +kernel
theorem dX6_order_7 : decode cX6_order 7 = .ok (.aload_n 0, 1) := by decide +kernel
theorem dX6_order_8 : decode cX6_order 8 = .ok (.getfield 97, 3) := by decide +kernel
theorem dX6_order_11 : decode cX6_order 11 = .ok (.iconst 1, 1) := by decide +kernel
theorem dX6_order_12 : decode cX6_order 12 = .ok (.isub, 1) := by decide +kernel
theorem dX6_order_13 : decode cX6_order 13 = .ok (.invokestatic 36, 3) := by decide +kernel
theorem dX6_order_16 : decode cX6_order 16 = .ok (.ifCond .eq 21, 3) := by decide +kernel
theorem dX6_order_19 : decode cX6_order 19 = .ok (.iload_n 2, 1) := by decide +kernel
theorem dX6_order_20 : decode cX6_order 20 = .ok (.iconst 0, 1) := by decide +kernel
theorem dX6_order_21 : decode cX6_order 21 = .ok (.iconst 5, 1) := by decide +kernel
theorem dX6_order_22 : decode cX6_order 22 = .ok (.invokestatic 36, 3) := by decide +kernel
theorem dX6_order_25 : decode cX6_order 25 = .ok (.ifCond .eq 12, 3) := by decide +kernel
theorem dX6_order_28 : decode cX6_order 28 = .ok (.aload_n 0, 1) := by decide +kernel
theorem dX6_order_29 : decode cX6_order 29 = .ok (.iload_n 1, 1) := by decide +kernel
theorem dX6_order_30 : decode cX6_order 30 = .ok (.iload_n 2, 1) := by decide +kernel
theorem dX6_order_31 : decode cX6_order 31 = .ok (.invokevirtual 141, 3) := by decide +kernel
theorem dX6_order_34 : decode cX6_order 34 = .ok (.goto 8, 3) := by decide +kernel
theorem dX6_order_37 : decode cX6_order 37 = .ok (.aload_n 0, 1) := by decide +kernel
theorem dX6_order_38 : decode cX6_order 38 = .ok (.iconst 1, 1) := by decide +kernel
theorem dX6_order_39 : decode cX6_order 39 = .ok (.invokevirtual 40, 3) := by decide +kernel
theorem dX6_order_42 : decode cX6_order 42 = .ok (.ireturn, 1) := by decide +kernel
theorem dX6_pass_0 : decode cX6_pass 0 = .ok (.aload_n 0, 1) := by decide +kernel
theorem dX6_pass_1 : decode cX6_pass 1 = .ok (.iconst 0, 1) := by decide +kernel
theorem dX6_pass_2 : decode cX6_pass 2 = .ok (.putfield 30, 3) := by decide +kernel
theorem dX6_pass_5 : decode cX6_pass 5 = .ok (.iload_n 1, 1) := by decide +kernel
theorem dX6_pass_6 : decode cX6_pass 6 = .ok (.iconst 1, 1) := by decide +kernel
theorem dX6_pass_7 : decode cX6_pass 7 = .ok (.sipush 400, 3) := by decide +kernel
theorem dX6_pass_10 : decode cX6_pass 10 = .ok (.invokestatic 36, 3) := by decide +kernel
theorem dX6_pass_13 : decode cX6_pass 13 = .ok (.ifCond .ne 9, 3) := by decide +kernel
theorem dX6_pass_16 : decode cX6_pass 16 = .ok (.aload_n 0, 1) := by decide +kernel
theorem dX6_pass_17 : decode cX6_pass 17 = .ok (.iconst 1, 1) := by decide +kernel
theorem dX6_pass_18 : decode cX6_pass 18 = .ok (.invokevirtual 40, 3) := by decide +kernel
theorem dX6_pass_21 : decode cX6_pass 21 = .ok (.ireturn, 1) := by decide +kernel
theorem dX6_pass_22 : decode cX6_pass 22 = .ok (.iconst 0, 1) := by decide +kernel
theorem dX6_pass_23 : decode cX6_pass 23 = .ok (.istore_n 2, 1) := by decide +kernel
theorem dX6_pass_24 : decode cX6_pass 24 = .ok (.iload_n 2, 1) := by decide +kernel
theorem dX6_pass_25 : decode cX6_pass 25 = .ok (.iload_n 1, 1) := by decide +kernel
theorem dX6_pass_26 : decode cX6_pass 26 = .ok (.if_icmp .ge 14, 3) := by decide +kernel
theorem dX6_pass_29 : decode cX6_pass 29 = .ok (.aload_n 0, 1) := by decide +kernel
theorem dX6_pass_30 : decode cX6_pass 30 = .ok (.iconst (-1), 1) := by decide +kernel
theorem dX6_pass_31 : decode cX6_pass 31 = .ok (.invokevirtual 119, 3) := by decide +kernel
theorem dX6_pass_34 : decode cX6_pass 34 = .ok (.iinc 2 1, 3) := by decide +kernel
theorem dX6_pass_37 : decode cX6_pass 37 = .ok (.goto (-13), 3) := by decide +kernel
theorem dX6_pass_40 : decode cX6_pass 40 = .ok (.aload_n 0, 1) := by decide +kernel
theorem dX6_pass_41 : decode cX6_pass 41 = .ok (.getfield 7, 3) := by decide +kernel
theorem dX6_pass_44 : decode cX6_pass 44 = .ok (.ireturn, 1) := by decide +kernel
theorem dX6_with_0 : decode cX6_with 0 = .ok (.iconst 0, 1) := by decide +kernel
theorem dX6_with_1 : decode cX6_with 1 = .ok (.istore_n 2, 1) := by decide +kernel
theorem dX6_with_2 : decode cX6_with 2 = .ok (.iconst 0, 1) := by decide +kernel
theorem dX6_with_3 : decode cX6_with 3 = .ok (.istore_n 3, 1) := by decide +kernel
theorem dX6_with_4 : decode cX6_with 4 = .ok (.iload_n 3, 1) := by decide +kernel
theorem dX6_with_5 : decode cX6_with 5 = .ok (.aload_n 0, 1) := by decide +kernel
theorem dX6_with_6 : decode cX6_with 6 = .ok (.getfield 97, 3) := by decide +kernel
theorem dX6_with_9 : decode cX6_with 9 = .ok (.if_icmp .ge 27, 3) := by decide +kernel
theorem dX6_with_12 : decode cX6_with 12 = .ok (.iload_n 2, 1) := by decide +kernel
theorem dX6_with_13 : decode cX6_with 13 = .ok (.aload_n 0, 1) := by decide +kernel
theorem dX6_with_14 : decode cX6_with 14 = .ok (.iload_n 3, 1) := by decide +kernel
theorem dX6_with_15 : decode cX6_with 15 = .ok (.iconst 4, 1) := by decide +kernel
theorem dX6_with_16 : decode cX6_with 16 = .ok (.invokevirtual 100, 3) := by decide +kernel
theorem dX6_with_19 : decode cX6_with 19 = .ok (.iload_n 1, 1) := by decide +kernel
theorem dX6_with_20 : decode cX6_with 20 = .ok (.if_icmp .ne 7, 3) := by decide +kernel
theorem dX6_with_23 : decode cX6_with 23 = .ok (.iconst 1, 1) := by decide +kernel
theorem dX6_with_24 : decode cX6_with 24 = .ok (.goto 4, 3) := by decide +kernel
theorem dX6_with_27 : decode cX6_with 27 = .ok (.iconst 0, 1) := by decide +kernel
theorem dX6_with_28 : decode cX6_with 28 = .ok (.iadd, 1) := by decide +kernel
theorem dX6_with_29 : decode cX6_with 29 = .ok (.istore_n 2, 1) := by decide +kernel
theorem dX6_with_30 : decode cX6_with 30 = .ok (.iinc 3 1, 3) := by decide +kernel
theorem dX6_with_33 : decode cX6_with 33 = .ok (.goto (-29), 3) := by decide +kernel
theorem dX6_with_36 : decode cX6_with 36 = .ok (.iload_n 2, 1) := by decide +kernel
theorem dX6_with_37 : decode cX6_with 37 = .ok (.ireturn, 1) := by decide +kernel
theorem dX6_counted_0 : decode cX6_counted 0 = .ok (.iconst 0, 1) := by decide +kernel
theorem dX6_counted_1 : decode cX6_counted 1 = .ok (.istore_n 2, 1) := by decide +kernel
theorem dX6_counted_2 : decode cX6_counted 2 = .ok (.iload_n 1, 1) := by decide +kernel
theorem dX6_counted_3 : decode cX6_counted 3 = .ok (.tableswitch 112 0 7 #[45, 50, 55, 89, 94, 99, 99, 107], 45) := by decide +kernel
theorem dX6_counted_48 : decode cX6_counted 48 = .ok (.aload_n 0, 1) := by decide +kernel
theorem dX6_counted_49 : decode cX6_counted 49 = .ok (.getfield 94, 3) := by decide +kernel
theorem dX6_counted_52 : decode cX6_counted 52 = .ok (.ireturn, 1) := by decide +kernel
theorem dX6_counted_53 : decode cX6_counted 53 = .ok (.aload_n 0, 1) := by decide +kernel
theorem dX6_counted_54 : decode cX6_counted 54 = .ok (.getfield 33, 3) := by decide +kernel
theorem dX6_counted_57 : decode cX6_counted 57 = .ok (.ireturn, 1) := by decide +kernel
theorem dX6_counted_58 : decode cX6_counted 58 = .ok (.iconst 0, 1) := by decide +kernel
theorem dX6_counted_59 : decode cX6_counted 59 = .ok (.istore_n 3, 1) := by decide +kernel
theorem dX6_counted_60 : decode cX6_counted 60 = .ok (.iload_n 3, 1) := by decide +kernel
theorem dX6_counted_61 : decode cX6_counted 61 = .ok (.aload_n 0, 1) := by decide +kernel
theorem dX6_counted_62 : decode cX6_counted 62 = .ok (.getfield 33, 3) := by decide +kernel
theorem dX6_counted_65 : decode cX6_counted 65 = .ok (.if_icmp .ge 25, 3) := by decide +kernel
theorem dX6_counted_68 : decode cX6_counted 68 = .ok (.iload_n 2, 1) := by decide +kernel
theorem dX6_counted_69 : decode cX6_counted 69 = .ok (.aload_n 0, 1) := by decide +kernel
theorem dX6_counted_70 : decode cX6_counted 70 = .ok (.iload_n 3, 1) := by decide +kernel
theorem dX6_counted_71 : decode cX6_counted 71 = .ok (.invokevirtual 107, 3) := by decide +kernel
theorem dX6_counted_74 : decode cX6_counted 74 = .ok (.ifCond .eq 7, 3) := by decide +kernel
theorem dX6_counted_77 : decode cX6_counted 77 = .ok (.iconst 1, 1) := by decide +kernel
theorem dX6_counted_78 : decode cX6_counted 78 = .ok (.goto 4, 3) := by decide +kernel
theorem dX6_counted_81 : decode cX6_counted 81 = .ok (.iconst 0, 1) := by decide +kernel
theorem dX6_counted_82 : decode cX6_counted 82 = .ok (.iadd, 1) := by decide +kernel
theorem dX6_counted_83 : decode cX6_counted 83 = .ok (.istore_n 2, 1) := by decide +kernel
theorem dX6_counted_84 : decode cX6_counted 84 = .ok (.iinc 3 1, 3) := by decide +kernel
theorem dX6_counted_87 : decode cX6_counted 87 = .ok (.goto (-27), 3) := by decide +kernel
theorem dX6_counted_90 : decode cX6_counted 90 = .ok (.iload_n 2, 1) := by decide +kernel
theorem dX6_counted_91 : decode cX6_counted 91 = .ok (.ireturn, 1) := by decide +kernel
theorem dX6_counted_92 : decode cX6_counted 92 = .ok (.aload_n 0, 1) := by decide +kernel
theorem dX6_counted_93 : decode cX6_counted 93 = .ok (.invokevirtual 137, 3) := by decide +kernel
theorem dX6_counted_96 : decode cX6_counted 96 = .ok (.ireturn, 1) := by decide +kernel
theorem dX6_counted_97 : decode cX6_counted 97 = .ok (.aload_n 0, 1) := by decide +kernel
theorem dX6_counted_98 : decode cX6_counted 98 = .ok (.getfield 97, 3) := by decide +kernel
theorem dX6_counted_101 : decode cX6_counted 101 = .ok (.ireturn, 1) := by decide +kernel
theorem dX6_counted_102 : decode cX6_counted 102 = .ok (.aload_n 0, 1) := by decide +kernel
theorem dX6_counted_103 : decode cX6_counted 103 = .ok (.iload_n 1, 1) := by decide +kernel
theorem dX6_counted_104 : decode cX6_counted 104 = .ok (.iconst 4, 1) := by decide +kernel
theorem dX6_counted_105 : decode cX6_counted 105 = .ok (.isub, 1) := by decide +kernel
theorem dX6_counted_106 : decode cX6_counted 106 = .ok (.invokevirtual 144, 3) := by decide +kernel
theorem dX6_counted_109 : decode cX6_counted 109 = .ok (.ireturn, 1) := by decide +kernel
theorem dX6_counted_110 : decode cX6_counted 110 = .ok (.aload_n 0, 1) := by decide +kernel
theorem dX6_counted_111 : decode cX6_counted 111 = .ok (.getfield 116, 3) := by decide +kernel
theorem dX6_counted_114 : decode cX6_counted 114 = .ok (.ireturn, 1) := by decide +kernel
theorem dX6_counted_115 : decode cX6_counted 115 = .ok (.aload_n 0, 1) := by decide +kernel
theorem dX6_counted_116 : decode cX6_counted 116 = .ok (.getfield 125, 3) := by decide +kernel
theorem dX6_counted_119 : decode cX6_counted 119 = .ok (.ireturn, 1) := by decide +kernel
theorem dX6_count_0 : decode cX6_count 0 = .ok (.aload_n 0, 1) := by decide +kernel
theorem dX6_count_1 : decode cX6_count 1 = .ok (.iconst 0, 1) := by decide +kernel
theorem dX6_count_2 : decode cX6_count 2 = .ok (.putfield 30, 3) := by decide +kernel
theorem dX6_count_5 : decode cX6_count 5 = .ok (.iload_n 1, 1) := by decide +kernel
theorem dX6_count_6 : decode cX6_count 6 = .ok (.iconst 0, 1) := by decide +kernel
theorem dX6_count_7 : decode cX6_count 7 = .ok (.bipush 8, 2) := by decide +kernel
theorem dX6_count_9 : decode cX6_count 9 = .ok (.invokestatic 36, 3) := by decide +kernel
theorem dX6_count_12 : decode cX6_count 12 = .ok (.ifCond .eq 11, 3) := by decide +kernel
theorem dX6_count_15 : decode cX6_count 15 = .ok (.aload_n 0, 1) := by decide +kernel
theorem dX6_count_16 : decode cX6_count 16 = .ok (.iload_n 1, 1) := by decide +kernel
theorem dX6_count_17 : decode cX6_count 17 = .ok (.invokevirtual 147, 3) := by decide +kernel
theorem dX6_count_20 : decode cX6_count 20 = .ok (.goto 8, 3) := by decide +kernel
theorem dX6_count_23 : decode cX6_count 23 = .ok (.aload_n 0, 1) := by decide +kernel
theorem dX6_count_24 : decode cX6_count 24 = .ok (.iconst 1, 1) := by decide +kernel
theorem dX6_count_25 : decode cX6_count 25 = .ok (.invokevirtual 40, 3) := by decide +kernel
theorem dX6_count_28 : decode cX6_count 28 = .ok (.ireturn, 1) := by decide +kernel
theorem dX6_would_0 : decode cX6_would 0 = .ok (.aload_n 0, 1) := by decide +kernel
theorem dX6_would_1 : decode cX6_would 1 = .ok (.iconst 0, 1) := by decide +kernel
theorem dX6_would_2 : decode cX6_would 2 = .ok (.putfield 30, 3) := by decide +kernel
theorem dX6_would_5 : decode cX6_would 5 = .ok (.aload_n 0, 1) := by decide +kernel
theorem dX6_would_6 : decode cX6_would 6 = .ok (.iload_n 1, 1) := by decide +kernel
theorem dX6_would_7 : decode cX6_would 7 = .ok (.invokevirtual 63, 3) := by decide +kernel
theorem dX6_would_10 : decode cX6_would 10 = .ok (.ifCond .ne 9, 3) := by decide +kernel
theorem dX6_would_13 : decode cX6_would 13 = .ok (.aload_n 0, 1) := by decide +kernel
theorem dX6_would_14 : decode cX6_would 14 = .ok (.iconst 1, 1) := by decide +kernel
theorem dX6_would_15 : decode cX6_would 15 = .ok (.invokevirtual 40, 3) := by decide +kernel
theorem dX6_would_18 : decode cX6_would 18 = .ok (.ireturn, 1) := by decide +kernel
theorem dX6_would_19 : decode cX6_would 19 = .ok (.iload_n 2, 1) := by decide +kernel
theorem dX6_would_20 : decode cX6_would 20 = .ok (.iconst 1, 1) := by decide +kernel
theorem dX6_would_21 : decode cX6_would 21 = .ok (.bipush 40, 2) := by decide +kernel
theorem dX6_would_23 : decode cX6_would 23 = .ok (.invokestatic 36, 3) := by decide +kernel
theorem dX6_would_26 : decode cX6_would 26 = .ok (.ifCond .ne 9, 3) := by decide +kernel
theorem dX6_would_29 : decode cX6_would 29 = .ok (.aload_n 0, 1) := by decide +kernel
theorem dX6_would_30 : decode cX6_would 30 = .ok (.iconst 2, 1) := by decide +kernel
theorem dX6_would_31 : decode cX6_would 31 = .ok (.invokevirtual 40, 3) := by decide +kernel
theorem dX6_would_34 : decode cX6_would 34 = .ok (.ireturn, 1) := by decide +kernel
theorem dX6_would_35 : decode cX6_would 35 = .ok (.aload_n 0, 1) := by decide +kernel
theorem dX6_would_36 : decode cX6_would 36 = .ok (.iload_n 1, 1) := by decide +kernel
theorem dX6_would_37 : decode cX6_would 37 = .ok (.invokevirtual 107, 3) := by decide +kernel
theorem dX6_would_40 : decode cX6_would 40 = .ok (.ifCond .ne 9, 3) := by decide +kernel
theorem dX6_would_43 : decode cX6_would 43 = .ok (.aload_n 0, 1) := by decide +kernel
theorem dX6_would_44 : decode cX6_would 44 = .ok (.iconst 3, 1) := by decide +kernel
theorem dX6_would_45 : decode cX6_would 45 = .ok (.invokevirtual 40, 3) := by decide +kernel
theorem dX6_would_48 : decode cX6_would 48 = .ok (.ireturn, 1) := by decide +kernel
theorem dX6_would_49 : decode cX6_would 49 = .ok (.aload_n 0, 1) := by decide +kernel
theorem dX6_would_50 : decode cX6_would 50 = .ok (.iload_n 1, 1) := by decide +kernel
theorem dX6_would_51 : decode cX6_would 51 = .ok (.invokevirtual 103, 3) := by decide +kernel
theorem dX6_would_54 : decode cX6_would 54 = .ok (.iconst 0, 1) := by decide +kernel
theorem dX6_would_55 : decode cX6_would 55 = .ok (.istore_n 3, 1) := by decide +kernel
theorem dX6_would_56 : decode cX6_would 56 = .ok (.iload_n 3, 1) := by decide +kernel
theorem dX6_would_57 : decode cX6_would 57 = .ok (.iload_n 2, 1) := by decide +kernel
theorem dX6_would_58 : decode cX6_would 58 = .ok (.if_icmp .ge 38, 3) := by decide +kernel
theorem dX6_would_61 : decode cX6_would 61 = .ok (.aload_n 0, 1) := by decide +kernel
theorem dX6_would_62 : decode cX6_would 62 = .ok (.iload_n 1, 1) := by decide +kernel
theorem dX6_would_63 : decode cX6_would 63 = .ok (.invokevirtual 110, 3) := by decide +kernel
theorem dX6_would_66 : decode cX6_would 66 = .ok (.ifCond .eq 30, 3) := by decide +kernel
theorem dX6_would_69 : decode cX6_would 69 = .ok (.aload_n 0, 1) := by decide +kernel
theorem dX6_would_70 : decode cX6_would 70 = .ok (.iload_n 1, 1) := by decide +kernel
theorem dX6_would_71 : decode cX6_would 71 = .ok (.invokevirtual 113, 3) := by decide +kernel
theorem dX6_would_74 : decode cX6_would 74 = .ok (.aload_n 0, 1) := by decide +kernel
theorem dX6_would_75 : decode cX6_would 75 = .ok (.getfield 23, 3) := by decide +kernel
theorem dX6_would_78 : decode cX6_would 78 = .ok (.iconst 1, 1) := by decide +kernel
theorem dX6_would_79 : decode cX6_would 79 = .ok (.aload_n 0, 1) := by decide +kernel
theorem dX6_would_80 : decode cX6_would 80 = .ok (.aload_n 0, 1) := by decide +kernel
theorem dX6_would_81 : decode cX6_would 81 = .ok (.getfield 23, 3) := by decide +kernel
theorem dX6_would_84 : decode cX6_would 84 = .ok (.iconst 1, 1) := by decide +kernel
theorem dX6_would_85 : decode cX6_would 85 = .ok (.iaload, 1) := by decide +kernel
theorem dX6_would_86 : decode cX6_would 86 = .ok (.invokevirtual 88, 3) := by decide +kernel
theorem dX6_would_89 : decode cX6_would 89 = .ok (.iastore, 1) := by decide +kernel
theorem dX6_would_90 : decode cX6_would 90 = .ok (.iinc 3 1, 3) := by decide +kernel
theorem dX6_would_93 : decode cX6_would 93 = .ok (.goto (-37), 3) := by decide +kernel
theorem dX6_would_96 : decode cX6_would 96 = .ok (.aload_n 0, 1) := by decide +kernel
theorem dX6_would_97 : decode cX6_would 97 = .ok (.getfield 23, 3) := by decide +kernel
theorem dX6_would_100 : decode cX6_would 100 = .ok (.iconst 2, 1) := by decide +kernel
theorem dX6_would_101 : decode cX6_would 101 = .ok (.iaload, 1) := by decide +kernel
theorem dX6_would_102 : decode cX6_would 102 = .ok (.ireturn, 1) := by decide +kernel
theorem dX6_needs_0 : decode cX6_needs 0 = .ok (.aload_n 0, 1) := by decide +kernel
theorem dX6_needs_1 : decode cX6_needs 1 = .ok (.iload_n 1, 1) := by decide +kernel
theorem dX6_needs_2 : decode cX6_needs 2 = .ok (.invokevirtual 103, 3) := by decide +kernel
theorem dX6_needs_5 : decode cX6_needs 5 = .ok (.aload_n 0, 1) := by decide +kernel
theorem dX6_needs_6 : decode cX6_needs 6 = .ok (.getfield 23, 3) := by decide +kernel
theorem dX6_needs_9 : decode cX6_needs 9 = .ok (.iconst 2, 1) := by decide +kernel
theorem dX6_needs_10 : decode cX6_needs 10 = .ok (.iaload, 1) := by decide +kernel
theorem dX6_needs_11 : decode cX6_needs 11 = .ok (.aload_n 0, 1) := by decide +kernel
theorem dX6_needs_12 : decode cX6_needs 12 = .ok (.getfield 23, 3) := by decide +kernel
theorem dX6_needs_15 : decode cX6_needs 15 = .ok (.iconst 4, 1) := by decide +kernel
theorem dX6_needs_16 : decode cX6_needs 16 = .ok (.iaload, 1) := by decide +kernel
theorem dX6_needs_17 : decode cX6_needs 17 = .ok (.invokestatic 122, 3) := by decide +kernel
theorem dX6_needs_20 : decode cX6_needs 20 = .ok (.iload_n 3, 1) := by decide +kernel
theorem dX6_needs_21 : decode cX6_needs 21 = .ok (.if_icmp .lt 5, 3) := by decide +kernel
theorem dX6_needs_24 : decode cX6_needs 24 = .ok (.iconst 0, 1) := by decide +kernel
theorem dX6_needs_25 : decode cX6_needs 25 = .ok (.ireturn, 1) := by decide +kernel
theorem dX6_needs_26 : decode cX6_needs 26 = .ok (.iconst 1, 1) := by decide +kernel
theorem dX6_needs_27 : decode cX6_needs 27 = .ok (.istore 4, 2) := by decide +kernel
theorem dX6_needs_29 : decode cX6_needs 29 = .ok (.iload 4, 2) := by decide +kernel
theorem dX6_needs_31 : decode cX6_needs 31 = .ok (.bipush 60, 2) := by decide +kernel
theorem dX6_needs_33 : decode cX6_needs 33 = .ok (.if_icmp .gt 115, 3) := by decide +kernel
theorem dX6_needs_36 : decode cX6_needs 36 = .ok (.aload_n 0, 1) := by decide +kernel
theorem dX6_needs_37 : decode cX6_needs 37 = .ok (.iload_n 1, 1) := by decide +kernel
theorem dX6_needs_38 : decode cX6_needs 38 = .ok (.invokevirtual 110, 3) := by decide +kernel
theorem dX6_needs_41 : decode cX6_needs 41 = .ok (.ifCond .ne 5, 3) := by decide +kernel
theorem dX6_needs_44 : decode cX6_needs 44 = .ok (.iconst (-1), 1) := by decide +kernel
theorem dX6_needs_45 : decode cX6_needs 45 = .ok (.ireturn, 1) := by decide +kernel
theorem dX6_needs_46 : decode cX6_needs 46 = .ok (.aload_n 0, 1) := by decide +kernel
theorem dX6_needs_47 : decode cX6_needs 47 = .ok (.iload_n 1, 1) := by decide +kernel
theorem dX6_needs_48 : decode cX6_needs 48 = .ok (.invokevirtual 113, 3) := by decide +kernel
theorem dX6_needs_51 : decode cX6_needs 51 = .ok (.aload_n 0, 1) := by decide +kernel
theorem dX6_needs_52 : decode cX6_needs 52 = .ok (.getfield 23, 3) := by decide +kernel
theorem dX6_needs_55 : decode cX6_needs 55 = .ok (.iconst 2, 1) := by decide +kernel
theorem dX6_needs_56 : decode cX6_needs 56 = .ok (.iaload, 1) := by decide +kernel
theorem dX6_needs_57 : decode cX6_needs 57 = .ok (.aload_n 0, 1) := by decide +kernel
theorem dX6_needs_58 : decode cX6_needs 58 = .ok (.getfield 23, 3) := by decide +kernel
theorem dX6_needs_61 : decode cX6_needs 61 = .ok (.iconst 4, 1) := by decide +kernel
theorem dX6_needs_62 : decode cX6_needs 62 = .ok (.iaload, 1) := by decide +kernel
theorem dX6_needs_63 : decode cX6_needs 63 = .ok (.invokestatic 122, 3) := by decide +kernel
theorem dX6_needs_66 : decode cX6_needs 66 = .ok (.iload_n 3, 1) := by decide +kernel
theorem dX6_needs_67 : decode cX6_needs 67 = .ok (.if_icmp .lt 6, 3) := by decide +kernel
theorem dX6_needs_70 : decode cX6_needs 70 = .ok (.iload 4, 2) := by decide +kernel
theorem dX6_needs_72 : decode cX6_needs 72 = .ok (.ireturn, 1) := by decide +kernel
theorem dX6_needs_73 : decode cX6_needs 73 = .ok (.aload_n 0, 1) := by decide +kernel
theorem dX6_needs_74 : decode cX6_needs 74 = .ok (.getfield 23, 3) := by decide +kernel
theorem dX6_needs_77 : decode cX6_needs 77 = .ok (.iconst 1, 1) := by decide +kernel
theorem dX6_needs_78 : decode cX6_needs 78 = .ok (.aload_n 0, 1) := by decide +kernel
theorem dX6_needs_79 : decode cX6_needs 79 = .ok (.aload_n 0, 1) := by decide +kernel
theorem dX6_needs_80 : decode cX6_needs 80 = .ok (.getfield 23, 3) := by decide +kernel
theorem dX6_needs_83 : decode cX6_needs 83 = .ok (.iconst 1, 1) := by decide +kernel
theorem dX6_needs_84 : decode cX6_needs 84 = .ok (.iaload, 1) := by decide +kernel
theorem dX6_needs_85 : decode cX6_needs 85 = .ok (.invokevirtual 88, 3) := by decide +kernel
theorem dX6_needs_88 : decode cX6_needs 88 = .ok (.iastore, 1) := by decide +kernel
theorem dX6_needs_89 : decode cX6_needs 89 = .ok (.iconst 0, 1) := by decide +kernel
theorem dX6_needs_90 : decode cX6_needs 90 = .ok (.istore 5, 2) := by decide +kernel
theorem dX6_needs_92 : decode cX6_needs 92 = .ok (.iload 5, 2) := by decide +kernel
theorem dX6_needs_94 : decode cX6_needs 94 = .ok (.iload_n 2, 1) := by decide +kernel
theorem dX6_needs_95 : decode cX6_needs 95 = .ok (.if_icmp .ge 47, 3) := by decide +kernel
theorem dX6_needs_98 : decode cX6_needs 98 = .ok (.aload_n 0, 1) := by decide +kernel
theorem dX6_needs_99 : decode cX6_needs 99 = .ok (.getfield 23, 3) := by decide +kernel
theorem dX6_needs_102 : decode cX6_needs 102 = .ok (.iconst 1, 1) := by decide +kernel
theorem dX6_needs_103 : decode cX6_needs 103 = .ok (.aload_n 0, 1) := by decide +kernel
theorem dX6_needs_104 : decode cX6_needs 104 = .ok (.aload_n 0, 1) := by decide +kernel
theorem dX6_needs_105 : decode cX6_needs 105 = .ok (.getfield 23, 3) := by decide +kernel
theorem dX6_needs_108 : decode cX6_needs 108 = .ok (.iconst 1, 1) := by decide +kernel
theorem dX6_needs_109 : decode cX6_needs 109 = .ok (.iaload, 1) := by decide +kernel
theorem dX6_needs_110 : decode cX6_needs 110 = .ok (.invokevirtual 88, 3) := by decide +kernel
theorem dX6_needs_113 : decode cX6_needs 113 = .ok (.iastore, 1) := by decide +kernel
theorem dX6_needs_114 : decode cX6_needs 114 = .ok (.aload_n 0, 1) := by decide +kernel
theorem dX6_needs_115 : decode cX6_needs 115 = .ok (.getfield 23, 3) := by decide +kernel
theorem dX6_needs_118 : decode cX6_needs 118 = .ok (.iconst 3, 1) := by decide +kernel
theorem dX6_needs_119 : decode cX6_needs 119 = .ok (.iconst 0, 1) := by decide +kernel
theorem dX6_needs_120 : decode cX6_needs 120 = .ok (.aload_n 0, 1) := by decide +kernel
theorem dX6_needs_121 : decode cX6_needs 121 = .ok (.getfield 23, 3) := by decide +kernel
theorem dX6_needs_124 : decode cX6_needs 124 = .ok (.iconst 3, 1) := by decide +kernel
theorem dX6_needs_125 : decode cX6_needs 125 = .ok (.iaload, 1) := by decide +kernel
theorem dX6_needs_126 : decode cX6_needs 126 = .ok (.aload_n 0, 1) := by decide +kernel
theorem dX6_needs_127 : decode cX6_needs 127 = .ok (.iload_n 1, 1) := by decide +kernel
theorem dX6_needs_128 : decode cX6_needs 128 = .ok (.invokevirtual 91, 3) := by decide +kernel
theorem dX6_needs_131 : decode cX6_needs 131 = .ok (.isub, 1) := by decide +kernel
theorem dX6_needs_132 : decode cX6_needs 132 = .ok (.invokestatic 85, 3) := by decide +kernel
theorem dX6_needs_135 : decode cX6_needs 135 = .ok (.iastore, 1) := by decide +kernel
theorem dX6_needs_136 : decode cX6_needs 136 = .ok (.iinc 5 1, 3) := by decide +kernel
theorem dX6_needs_139 : decode cX6_needs 139 = .ok (.goto (-47), 3) := by decide +kernel
theorem dX6_needs_142 : decode cX6_needs 142 = .ok (.iinc 4 1, 3) := by decide +kernel
theorem dX6_needs_145 : decode cX6_needs 145 = .ok (.goto (-116), 3) := by decide +kernel
theorem dX6_needs_148 : decode cX6_needs 148 = .ok (.iconst (-1), 1) := by decide +kernel
theorem dX6_needs_149 : decode cX6_needs 149 = .ok (.ireturn, 1) := by decide +kernel
theorem dX6_dipsTo_0 : decode cX6_dipsTo 0 = .ok (.aload_n 0, 1) := by decide +kernel
theorem dX6_dipsTo_1 : decode cX6_dipsTo 1 = .ok (.iconst 0, 1) := by decide +kernel
theorem dX6_dipsTo_2 : decode cX6_dipsTo 2 = .ok (.putfield 30, 3) := by decide +kernel
theorem dX6_dipsTo_5 : decode cX6_dipsTo 5 = .ok (.aload_n 0, 1) := by decide +kernel
theorem dX6_dipsTo_6 : decode cX6_dipsTo 6 = .ok (.iload_n 1, 1) := by decide +kernel
theorem dX6_dipsTo_7 : decode cX6_dipsTo 7 = .ok (.invokevirtual 63, 3) := by decide +kernel
theorem dX6_dipsTo_10 : decode cX6_dipsTo 10 = .ok (.ifCond .ne 9, 3) := by decide +kernel
theorem dX6_dipsTo_13 : decode cX6_dipsTo 13 = .ok (.aload_n 0, 1) := by decide +kernel
theorem dX6_dipsTo_14 : decode cX6_dipsTo 14 = .ok (.iconst 1, 1) := by decide +kernel
theorem dX6_dipsTo_15 : decode cX6_dipsTo 15 = .ok (.invokevirtual 40, 3) := by decide +kernel
theorem dX6_dipsTo_18 : decode cX6_dipsTo 18 = .ok (.ireturn, 1) := by decide +kernel
theorem dX6_dipsTo_19 : decode cX6_dipsTo 19 = .ok (.iload_n 2, 1) := by decide +kernel
theorem dX6_dipsTo_20 : decode cX6_dipsTo 20 = .ok (.iconst 0, 1) := by decide +kernel
theorem dX6_dipsTo_21 : decode cX6_dipsTo 21 = .ok (.bipush 20, 2) := by decide +kernel
theorem dX6_dipsTo_23 : decode cX6_dipsTo 23 = .ok (.invokestatic 36, 3) := by decide +kernel
theorem dX6_dipsTo_26 : decode cX6_dipsTo 26 = .ok (.ifCond .eq 13, 3) := by decide +kernel
theorem dX6_dipsTo_29 : decode cX6_dipsTo 29 = .ok (.iload_n 3, 1) := by decide +kernel
theorem dX6_dipsTo_30 : decode cX6_dipsTo 30 = .ok (.iconst 1, 1) := by decide +kernel
theorem dX6_dipsTo_31 : decode cX6_dipsTo 31 = .ok (.bipush 9, 2) := by decide +kernel
theorem dX6_dipsTo_33 : decode cX6_dipsTo 33 = .ok (.invokestatic 36, 3) := by decide +kernel
theorem dX6_dipsTo_36 : decode cX6_dipsTo 36 = .ok (.ifCond .ne 9, 3) := by decide +kernel
theorem dX6_dipsTo_39 : decode cX6_dipsTo 39 = .ok (.aload_n 0, 1) := by decide +kernel
theorem dX6_dipsTo_40 : decode cX6_dipsTo 40 = .ok (.iconst 2, 1) := by decide +kernel
theorem dX6_dipsTo_41 : decode cX6_dipsTo 41 = .ok (.invokevirtual 40, 3) := by decide +kernel
theorem dX6_dipsTo_44 : decode cX6_dipsTo 44 = .ok (.ireturn, 1) := by decide +kernel
theorem dX6_dipsTo_45 : decode cX6_dipsTo 45 = .ok (.aload_n 0, 1) := by decide +kernel
theorem dX6_dipsTo_46 : decode cX6_dipsTo 46 = .ok (.iload_n 1, 1) := by decide +kernel
theorem dX6_dipsTo_47 : decode cX6_dipsTo 47 = .ok (.invokevirtual 107, 3) := by decide +kernel
theorem dX6_dipsTo_50 : decode cX6_dipsTo 50 = .ok (.ifCond .eq 13, 3) := by decide +kernel
theorem dX6_dipsTo_53 : decode cX6_dipsTo 53 = .ok (.aload_n 0, 1) := by decide +kernel
theorem dX6_dipsTo_54 : decode cX6_dipsTo 54 = .ok (.iload_n 1, 1) := by decide +kernel
theorem dX6_dipsTo_55 : decode cX6_dipsTo 55 = .ok (.iload_n 2, 1) := by decide +kernel
theorem dX6_dipsTo_56 : decode cX6_dipsTo 56 = .ok (.iload_n 3, 1) := by decide +kernel
theorem dX6_dipsTo_57 : decode cX6_dipsTo 57 = .ok (.invokevirtual 150, 3) := by decide +kernel
theorem dX6_dipsTo_60 : decode cX6_dipsTo 60 = .ok (.goto 8, 3) := by decide +kernel
theorem dX6_dipsTo_63 : decode cX6_dipsTo 63 = .ok (.aload_n 0, 1) := by decide +kernel
theorem dX6_dipsTo_64 : decode cX6_dipsTo 64 = .ok (.iconst 3, 1) := by decide +kernel
theorem dX6_dipsTo_65 : decode cX6_dipsTo 65 = .ok (.invokevirtual 40, 3) := by decide +kernel
theorem dX6_dipsTo_68 : decode cX6_dipsTo 68 = .ok (.ireturn, 1) := by decide +kernel
theorem dX6_bestRest_0 : decode cX6_bestRest 0 = .ok (.aload_n 0, 1) := by decide +kernel
theorem dX6_bestRest_1 : decode cX6_bestRest 1 = .ok (.iconst 0, 1) := by decide +kernel
theorem dX6_bestRest_2 : decode cX6_bestRest 2 = .ok (.putfield 30, 3) := by decide +kernel
theorem dX6_bestRest_5 : decode cX6_bestRest 5 = .ok (.aload_n 0, 1) := by decide +kernel
theorem dX6_bestRest_6 : decode cX6_bestRest 6 = .ok (.iload_n 1, 1) := by decide +kernel
theorem dX6_bestRest_7 : decode cX6_bestRest 7 = .ok (.invokevirtual 63, 3) := by decide +kernel
theorem dX6_bestRest_10 : decode cX6_bestRest 10 = .ok (.ifCond .ne 9, 3) := by decide +kernel
theorem dX6_bestRest_13 : decode cX6_bestRest 13 = .ok (.aload_n 0, 1) := by decide +kernel
theorem dX6_bestRest_14 : decode cX6_bestRest 14 = .ok (.iconst 1, 1) := by decide +kernel
theorem dX6_bestRest_15 : decode cX6_bestRest 15 = .ok (.invokevirtual 40, 3) := by decide +kernel
theorem dX6_bestRest_18 : decode cX6_bestRest 18 = .ok (.ireturn, 1) := by decide +kernel
theorem dX6_bestRest_19 : decode cX6_bestRest 19 = .ok (.iload_n 2, 1) := by decide +kernel
theorem dX6_bestRest_20 : decode cX6_bestRest 20 = .ok (.iconst 1, 1) := by decide +kernel
theorem dX6_bestRest_21 : decode cX6_bestRest 21 = .ok (.bipush 9, 2) := by decide +kernel
theorem dX6_bestRest_23 : decode cX6_bestRest 23 = .ok (.invokestatic 36, 3) := by decide +kernel
theorem dX6_bestRest_26 : decode cX6_bestRest 26 = .ok (.ifCond .ne 9, 3) := by decide +kernel
theorem dX6_bestRest_29 : decode cX6_bestRest 29 = .ok (.aload_n 0, 1) := by decide +kernel
theorem dX6_bestRest_30 : decode cX6_bestRest 30 = .ok (.iconst 2, 1) := by decide +kernel
theorem dX6_bestRest_31 : decode cX6_bestRest 31 = .ok (.invokevirtual 40, 3) := by decide +kernel
theorem dX6_bestRest_34 : decode cX6_bestRest 34 = .ok (.ireturn, 1) := by decide +kernel
theorem dX6_bestRest_35 : decode cX6_bestRest 35 = .ok (.aload_n 0, 1) := by decide +kernel
theorem dX6_bestRest_36 : decode cX6_bestRest 36 = .ok (.iload_n 1, 1) := by decide +kernel
theorem dX6_bestRest_37 : decode cX6_bestRest 37 = .ok (.invokevirtual 107, 3) := by decide +kernel
theorem dX6_bestRest_40 : decode cX6_bestRest 40 = .ok (.ifCond .ne 9, 3) := by decide +kernel
theorem dX6_bestRest_43 : decode cX6_bestRest 43 = .ok (.aload_n 0, 1) := by decide +kernel
theorem dX6_bestRest_44 : decode cX6_bestRest 44 = .ok (.iconst 3, 1) := by decide +kernel
theorem dX6_bestRest_45 : decode cX6_bestRest 45 = .ok (.invokevirtual 40, 3) := by decide +kernel
theorem dX6_bestRest_48 : decode cX6_bestRest 48 = .ok (.ireturn, 1) := by decide +kernel
theorem dX6_bestRest_49 : decode cX6_bestRest 49 = .ok (.iconst (-1), 1) := by decide +kernel
theorem dX6_bestRest_50 : decode cX6_bestRest 50 = .ok (.istore_n 3, 1) := by decide +kernel
theorem dX6_bestRest_51 : decode cX6_bestRest 51 = .ok (.iconst 0, 1) := by decide +kernel
theorem dX6_bestRest_52 : decode cX6_bestRest 52 = .ok (.istore 4, 2) := by decide +kernel
theorem dX6_bestRest_54 : decode cX6_bestRest 54 = .ok (.bipush 20, 2) := by decide +kernel
theorem dX6_bestRest_56 : decode cX6_bestRest 56 = .ok (.istore 5, 2) := by decide +kernel
theorem dX6_bestRest_58 : decode cX6_bestRest 58 = .ok (.iload 5, 2) := by decide +kernel
theorem dX6_bestRest_60 : decode cX6_bestRest 60 = .ok (.ifCond .lt 66, 3) := by decide +kernel
theorem dX6_bestRest_63 : decode cX6_bestRest 63 = .ok (.aload_n 0, 1) := by decide +kernel
theorem dX6_bestRest_64 : decode cX6_bestRest 64 = .ok (.iload_n 1, 1) := by decide +kernel
theorem dX6_bestRest_65 : decode cX6_bestRest 65 = .ok (.iload 5, 2) := by decide +kernel
theorem dX6_bestRest_67 : decode cX6_bestRest 67 = .ok (.iload_n 2, 1) := by decide +kernel
theorem dX6_bestRest_68 : decode cX6_bestRest 68 = .ok (.invokevirtual 150, 3) := by decide +kernel
theorem dX6_bestRest_71 : decode cX6_bestRest 71 = .ok (.istore 6, 2) := by decide +kernel
theorem dX6_bestRest_73 : decode cX6_bestRest 73 = .ok (.iload 6, 2) := by decide +kernel
theorem dX6_bestRest_75 : decode cX6_bestRest 75 = .ok (.ifCond .ne 5, 3) := by decide +kernel
theorem dX6_bestRest_78 : decode cX6_bestRest 78 = .ok (.iconst 0, 1) := by decide +kernel
theorem dX6_bestRest_79 : decode cX6_bestRest 79 = .ok (.ireturn, 1) := by decide +kernel
theorem dX6_bestRest_80 : decode cX6_bestRest 80 = .ok (.iload 6, 2) := by decide +kernel
theorem dX6_bestRest_82 : decode cX6_bestRest 82 = .ok (.iload 5, 2) := by decide +kernel
theorem dX6_bestRest_84 : decode cX6_bestRest 84 = .ok (.iload 6, 2) := by decide +kernel
theorem dX6_bestRest_86 : decode cX6_bestRest 86 = .ok (.iconst 1, 1) := by decide +kernel
theorem dX6_bestRest_87 : decode cX6_bestRest 87 = .ok (.isub, 1) := by decide +kernel
theorem dX6_bestRest_88 : decode cX6_bestRest 88 = .ok (.imul, 1) := by decide +kernel
theorem dX6_bestRest_89 : decode cX6_bestRest 89 = .ok (.iadd, 1) := by decide +kernel
theorem dX6_bestRest_90 : decode cX6_bestRest 90 = .ok (.istore 7, 2) := by decide +kernel
theorem dX6_bestRest_92 : decode cX6_bestRest 92 = .ok (.iload 6, 2) := by decide +kernel
theorem dX6_bestRest_94 : decode cX6_bestRest 94 = .ok (.iconst (-1), 1) := by decide +kernel
theorem dX6_bestRest_95 : decode cX6_bestRest 95 = .ok (.if_icmp .eq 25, 3) := by decide +kernel
theorem dX6_bestRest_98 : decode cX6_bestRest 98 = .ok (.iload_n 3, 1) := by decide +kernel
theorem dX6_bestRest_99 : decode cX6_bestRest 99 = .ok (.iconst (-1), 1) := by decide +kernel
theorem dX6_bestRest_100 : decode cX6_bestRest 100 = .ok (.if_icmp .eq 13, 3) := by decide +kernel
theorem dX6_bestRest_103 : decode cX6_bestRest 103 = .ok (.iload 7, 2) := by decide +kernel
theorem dX6_bestRest_105 : decode cX6_bestRest 105 = .ok (.iload 4, 2) := by decide +kernel
theorem dX6_bestRest_107 : decode cX6_bestRest 107 = .ok (.if_icmp .le 6, 3) := by decide +kernel
theorem dX6_bestRest_110 : decode cX6_bestRest 110 = .ok (.goto 10, 3) := by decide +kernel
theorem dX6_bestRest_113 : decode cX6_bestRest 113 = .ok (.iload 5, 2) := by decide +kernel
theorem dX6_bestRest_115 : decode cX6_bestRest 115 = .ok (.istore_n 3, 1) := by decide +kernel
theorem dX6_bestRest_116 : decode cX6_bestRest 116 = .ok (.iload 7, 2) := by decide +kernel
theorem dX6_bestRest_118 : decode cX6_bestRest 118 = .ok (.istore 4, 2) := by decide +kernel
theorem dX6_bestRest_120 : decode cX6_bestRest 120 = .ok (.iinc 5 (-1), 3) := by decide +kernel
theorem dX6_bestRest_123 : decode cX6_bestRest 123 = .ok (.goto (-65), 3) := by decide +kernel
theorem dX6_bestRest_126 : decode cX6_bestRest 126 = .ok (.iload_n 3, 1) := by decide +kernel
theorem dX6_bestRest_127 : decode cX6_bestRest 127 = .ok (.ireturn, 1) := by decide +kernel
theorem dX6_advise_0 : decode cX6_advise 0 = .ok (.aload_n 0, 1) := by decide +kernel
theorem dX6_advise_1 : decode cX6_advise 1 = .ok (.iconst 0, 1) := by decide +kernel
theorem dX6_advise_2 : decode cX6_advise 2 = .ok (.putfield 30, 3) := by decide +kernel
theorem dX6_advise_5 : decode cX6_advise 5 = .ok (.iconst (-1), 1) := by decide +kernel
theorem dX6_advise_6 : decode cX6_advise 6 = .ok (.istore_n 1, 1) := by decide +kernel
theorem dX6_advise_7 : decode cX6_advise 7 = .ok (.iconst 0, 1) := by decide +kernel
theorem dX6_advise_8 : decode cX6_advise 8 = .ok (.istore_n 2, 1) := by decide +kernel
theorem dX6_advise_9 : decode cX6_advise 9 = .ok (.iconst 0, 1) := by decide +kernel
theorem dX6_advise_10 : decode cX6_advise 10 = .ok (.istore_n 3, 1) := by decide +kernel
theorem dX6_advise_11 : decode cX6_advise 11 = .ok (.iload_n 3, 1) := by decide +kernel
theorem dX6_advise_12 : decode cX6_advise 12 = .ok (.aload_n 0, 1) := by decide +kernel
theorem dX6_advise_13 : decode cX6_advise 13 = .ok (.getfield 33, 3) := by decide +kernel
theorem dX6_advise_16 : decode cX6_advise 16 = .ok (.if_icmp .ge 50, 3) := by decide +kernel
theorem dX6_advise_19 : decode cX6_advise 19 = .ok (.aload_n 0, 1) := by decide +kernel
theorem dX6_advise_20 : decode cX6_advise 20 = .ok (.iload_n 3, 1) := by decide +kernel
theorem dX6_advise_21 : decode cX6_advise 21 = .ok (.invokevirtual 103, 3) := by decide +kernel
theorem dX6_advise_24 : decode cX6_advise 24 = .ok (.aload_n 0, 1) := by decide +kernel
theorem dX6_advise_25 : decode cX6_advise 25 = .ok (.iload_n 3, 1) := by decide +kernel
theorem dX6_advise_26 : decode cX6_advise 26 = .ok (.invokevirtual 107, 3) := by decide +kernel
theorem dX6_advise_29 : decode cX6_advise 29 = .ok (.ifCond .eq 31, 3) := by decide +kernel
theorem dX6_advise_32 : decode cX6_advise 32 = .ok (.aload_n 0, 1) := by decide +kernel
theorem dX6_advise_33 : decode cX6_advise 33 = .ok (.iload_n 3, 1) := by decide +kernel
theorem dX6_advise_34 : decode cX6_advise 34 = .ok (.invokevirtual 110, 3) := by decide +kernel
theorem dX6_advise_37 : decode cX6_advise 37 = .ok (.ifCond .eq 23, 3) := by decide +kernel
theorem dX6_advise_40 : decode cX6_advise 40 = .ok (.aload_n 0, 1) := by decide +kernel
theorem dX6_advise_41 : decode cX6_advise 41 = .ok (.iload_n 3, 1) := by decide +kernel
theorem dX6_advise_42 : decode cX6_advise 42 = .ok (.invokevirtual 79, 3) := by decide +kernel
theorem dX6_advise_45 : decode cX6_advise 45 = .ok (.iload_n 2, 1) := by decide +kernel
theorem dX6_advise_46 : decode cX6_advise 46 = .ok (.if_icmp .gt 6, 3) := by decide +kernel
theorem dX6_advise_49 : decode cX6_advise 49 = .ok (.goto 11, 3) := by decide +kernel
theorem dX6_advise_52 : decode cX6_advise 52 = .ok (.iload_n 3, 1) := by decide +kernel
theorem dX6_advise_53 : decode cX6_advise 53 = .ok (.istore_n 1, 1) := by decide +kernel
theorem dX6_advise_54 : decode cX6_advise 54 = .ok (.aload_n 0, 1) := by decide +kernel
theorem dX6_advise_55 : decode cX6_advise 55 = .ok (.iload_n 3, 1) := by decide +kernel
theorem dX6_advise_56 : decode cX6_advise 56 = .ok (.invokevirtual 79, 3) := by decide +kernel
theorem dX6_advise_59 : decode cX6_advise 59 = .ok (.istore_n 2, 1) := by decide +kernel
theorem dX6_advise_60 : decode cX6_advise 60 = .ok (.iinc 3 1, 3) := by decide +kernel
theorem dX6_advise_63 : decode cX6_advise 63 = .ok (.goto (-52), 3) := by decide +kernel
theorem dX6_advise_66 : decode cX6_advise 66 = .ok (.iload_n 1, 1) := by decide +kernel
theorem dX6_advise_67 : decode cX6_advise 67 = .ok (.ireturn, 1) := by decide +kernel
theorem dX6_possibleOf_0 : decode cX6_possibleOf 0 = .ok (.iconst 0, 1) := by decide +kernel
theorem dX6_possibleOf_1 : decode cX6_possibleOf 1 = .ok (.istore_n 2, 1) := by decide +kernel
theorem dX6_possibleOf_2 : decode cX6_possibleOf 2 = .ok (.iconst 0, 1) := by decide +kernel
theorem dX6_possibleOf_3 : decode cX6_possibleOf 3 = .ok (.istore_n 3, 1) := by decide +kernel
theorem dX6_possibleOf_4 : decode cX6_possibleOf 4 = .ok (.iconst 0, 1) := by decide +kernel
theorem dX6_possibleOf_5 : decode cX6_possibleOf 5 = .ok (.istore 4, 2) := by decide +kernel
theorem dX6_possibleOf_7 : decode cX6_possibleOf 7 = .ok (.iload 4, 2) := by decide +kernel
theorem dX6_possibleOf_9 : decode cX6_possibleOf 9 = .ok (.aload_n 0, 1) := by decide +kernel
theorem dX6_possibleOf_10 : decode cX6_possibleOf 10 = .ok (.getfield 97, 3) := by decide +kernel
theorem dX6_possibleOf_13 : decode cX6_possibleOf 13 = .ok (.if_icmp .ge 17, 3) := by decide +kernel
theorem dX6_possibleOf_16 : decode cX6_possibleOf 16 = .ok (.aload_n 0, 1) := by decide +kernel
theorem dX6_possibleOf_17 : decode cX6_possibleOf 17 = .ok (.getfield 26, 3) := by decide +kernel
theorem dX6_possibleOf_20 : decode cX6_possibleOf 20 = .ok (.iload 4, 2) := by decide +kernel
theorem dX6_possibleOf_22 : decode cX6_possibleOf 22 = .ok (.iconst 0, 1) := by decide +kernel
theorem dX6_possibleOf_23 : decode cX6_possibleOf 23 = .ok (.bastore, 1) := by decide +kernel
theorem dX6_possibleOf_24 : decode cX6_possibleOf 24 = .ok (.iinc 4 1, 3) := by decide +kernel
theorem dX6_possibleOf_27 : decode cX6_possibleOf 27 = .ok (.goto (-20), 3) := by decide +kernel
theorem dX6_possibleOf_30 : decode cX6_possibleOf 30 = .ok (.bipush 9, 2) := by decide +kernel
theorem dX6_possibleOf_32 : decode cX6_possibleOf 32 = .ok (.istore 4, 2) := by decide +kernel
theorem dX6_possibleOf_34 : decode cX6_possibleOf 34 = .ok (.iload 4, 2) := by decide +kernel
theorem dX6_possibleOf_36 : decode cX6_possibleOf 36 = .ok (.ifCond .le 177, 3) := by decide +kernel
theorem dX6_possibleOf_39 : decode cX6_possibleOf 39 = .ok (.iconst 0, 1) := by decide +kernel
theorem dX6_possibleOf_40 : decode cX6_possibleOf 40 = .ok (.istore 5, 2) := by decide +kernel
theorem dX6_possibleOf_42 : decode cX6_possibleOf 42 = .ok (.iload 5, 2) := by decide +kernel
theorem dX6_possibleOf_44 : decode cX6_possibleOf 44 = .ok (.aload_n 0, 1) := by decide +kernel
theorem dX6_possibleOf_45 : decode cX6_possibleOf 45 = .ok (.getfield 97, 3) := by decide +kernel
theorem dX6_possibleOf_48 : decode cX6_possibleOf 48 = .ok (.if_icmp .ge 66, 3) := by decide +kernel
theorem dX6_possibleOf_51 : decode cX6_possibleOf 51 = .ok (.aload_n 0, 1) := by decide +kernel
theorem dX6_possibleOf_52 : decode cX6_possibleOf 52 = .ok (.iload 5, 2) := by decide +kernel
theorem dX6_possibleOf_54 : decode cX6_possibleOf 54 = .ok (.iconst 0, 1) := by decide +kernel
theorem dX6_possibleOf_55 : decode cX6_possibleOf 55 = .ok (.invokevirtual 100, 3) := by decide +kernel
theorem dX6_possibleOf_58 : decode cX6_possibleOf 58 = .ok (.iload_n 1, 1) := by decide +kernel
theorem dX6_possibleOf_59 : decode cX6_possibleOf 59 = .ok (.if_icmp .ne 49, 3) := by decide +kernel
theorem dX6_possibleOf_62 : decode cX6_possibleOf 62 = .ok (.aload_n 0, 1) := by decide +kernel
theorem dX6_possibleOf_63 : decode cX6_possibleOf 63 = .ok (.iload 5, 2) := by decide +kernel
theorem dX6_possibleOf_65 : decode cX6_possibleOf 65 = .ok (.iconst 4, 1) := by decide +kernel
theorem dX6_possibleOf_66 : decode cX6_possibleOf 66 = .ok (.invokevirtual 100, 3) := by decide +kernel
theorem dX6_possibleOf_69 : decode cX6_possibleOf 69 = .ok (.ifCond .ne 39, 3) := by decide +kernel
theorem dX6_possibleOf_72 : decode cX6_possibleOf 72 = .ok (.aload_n 0, 1) := by decide +kernel
theorem dX6_possibleOf_73 : decode cX6_possibleOf 73 = .ok (.iload 5, 2) := by decide +kernel
theorem dX6_possibleOf_75 : decode cX6_possibleOf 75 = .ok (.iconst 1, 1) := by decide +kernel
theorem dX6_possibleOf_76 : decode cX6_possibleOf 76 = .ok (.invokevirtual 100, 3) := by decide +kernel
theorem dX6_possibleOf_79 : decode cX6_possibleOf 79 = .ok (.iload 4, 2) := by decide +kernel
theorem dX6_possibleOf_81 : decode cX6_possibleOf 81 = .ok (.if_icmp .eq 6, 3) := by decide +kernel
theorem dX6_possibleOf_84 : decode cX6_possibleOf 84 = .ok (.goto 24, 3) := by decide +kernel
theorem dX6_possibleOf_87 : decode cX6_possibleOf 87 = .ok (.aload_n 0, 1) := by decide +kernel
theorem dX6_possibleOf_88 : decode cX6_possibleOf 88 = .ok (.getfield 26, 3) := by decide +kernel
theorem dX6_possibleOf_91 : decode cX6_possibleOf 91 = .ok (.iload 5, 2) := by decide +kernel
theorem dX6_possibleOf_93 : decode cX6_possibleOf 93 = .ok (.iconst 1, 1) := by decide +kernel
theorem dX6_possibleOf_94 : decode cX6_possibleOf 94 = .ok (.bastore, 1) := by decide +kernel
theorem dX6_possibleOf_95 : decode cX6_possibleOf 95 = .ok (.iload_n 2, 1) := by decide +kernel
theorem dX6_possibleOf_96 : decode cX6_possibleOf 96 = .ok (.aload_n 0, 1) := by decide +kernel
theorem dX6_possibleOf_97 : decode cX6_possibleOf 97 = .ok (.iload 5, 2) := by decide +kernel
theorem dX6_possibleOf_99 : decode cX6_possibleOf 99 = .ok (.iconst 2, 1) := by decide +kernel
theorem dX6_possibleOf_100 : decode cX6_possibleOf 100 = .ok (.invokevirtual 100, 3) := by decide +kernel
theorem dX6_possibleOf_103 : decode cX6_possibleOf 103 = .ok (.iadd, 1) := by decide +kernel
theorem dX6_possibleOf_104 : decode cX6_possibleOf 104 = .ok (.istore_n 2, 1) := by decide +kernel
theorem dX6_possibleOf_105 : decode cX6_possibleOf 105 = .ok (.iinc 3 1, 3) := by decide +kernel
theorem dX6_possibleOf_108 : decode cX6_possibleOf 108 = .ok (.iinc 5 1, 3) := by decide +kernel
theorem dX6_possibleOf_111 : decode cX6_possibleOf 111 = .ok (.goto (-69), 3) := by decide +kernel
theorem dX6_possibleOf_114 : decode cX6_possibleOf 114 = .ok (.iload_n 2, 1) := by decide +kernel
theorem dX6_possibleOf_115 : decode cX6_possibleOf 115 = .ok (.aload_n 0, 1) := by decide +kernel
theorem dX6_possibleOf_116 : decode cX6_possibleOf 116 = .ok (.iload_n 1, 1) := by decide +kernel
theorem dX6_possibleOf_117 : decode cX6_possibleOf 117 = .ok (.iload 4, 2) := by decide +kernel
theorem dX6_possibleOf_119 : decode cX6_possibleOf 119 = .ok (.invokevirtual 131, 3) := by decide +kernel
theorem dX6_possibleOf_122 : decode cX6_possibleOf 122 = .ok (.if_icmp .le 85, 3) := by decide +kernel
theorem dX6_possibleOf_125 : decode cX6_possibleOf 125 = .ok (.iconst (-1), 1) := by decide +kernel
theorem dX6_possibleOf_126 : decode cX6_possibleOf 126 = .ok (.istore 5, 2) := by decide +kernel
theorem dX6_possibleOf_128 : decode cX6_possibleOf 128 = .ok (.iconst 0, 1) := by decide +kernel
theorem dX6_possibleOf_129 : decode cX6_possibleOf 129 = .ok (.istore 6, 2) := by decide +kernel
theorem dX6_possibleOf_131 : decode cX6_possibleOf 131 = .ok (.iload 6, 2) := by decide +kernel
theorem dX6_possibleOf_133 : decode cX6_possibleOf 133 = .ok (.aload_n 0, 1) := by decide +kernel
theorem dX6_possibleOf_134 : decode cX6_possibleOf 134 = .ok (.getfield 97, 3) := by decide +kernel
theorem dX6_possibleOf_137 : decode cX6_possibleOf 137 = .ok (.if_icmp .ge 46, 3) := by decide +kernel
theorem dX6_possibleOf_140 : decode cX6_possibleOf 140 = .ok (.aload_n 0, 1) := by decide +kernel
theorem dX6_possibleOf_141 : decode cX6_possibleOf 141 = .ok (.getfield 26, 3) := by decide +kernel
theorem dX6_possibleOf_144 : decode cX6_possibleOf 144 = .ok (.iload 6, 2) := by decide +kernel
theorem dX6_possibleOf_146 : decode cX6_possibleOf 146 = .ok (.baload, 1) := by decide +kernel
theorem dX6_possibleOf_147 : decode cX6_possibleOf 147 = .ok (.ifCond .eq 30, 3) := by decide +kernel
theorem dX6_possibleOf_150 : decode cX6_possibleOf 150 = .ok (.iload 5, 2) := by decide +kernel
theorem dX6_possibleOf_152 : decode cX6_possibleOf 152 = .ok (.iconst (-1), 1) := by decide +kernel
theorem dX6_possibleOf_153 : decode cX6_possibleOf 153 = .ok (.if_icmp .eq 20, 3) := by decide +kernel
theorem dX6_possibleOf_156 : decode cX6_possibleOf 156 = .ok (.aload_n 0, 1) := by decide +kernel
theorem dX6_possibleOf_157 : decode cX6_possibleOf 157 = .ok (.iload 6, 2) := by decide +kernel
theorem dX6_possibleOf_159 : decode cX6_possibleOf 159 = .ok (.iconst 2, 1) := by decide +kernel
theorem dX6_possibleOf_160 : decode cX6_possibleOf 160 = .ok (.invokevirtual 100, 3) := by decide +kernel
theorem dX6_possibleOf_163 : decode cX6_possibleOf 163 = .ok (.aload_n 0, 1) := by decide +kernel
theorem dX6_possibleOf_164 : decode cX6_possibleOf 164 = .ok (.iload 5, 2) := by decide +kernel
theorem dX6_possibleOf_166 : decode cX6_possibleOf 166 = .ok (.iconst 2, 1) := by decide +kernel
theorem dX6_possibleOf_167 : decode cX6_possibleOf 167 = .ok (.invokevirtual 100, 3) := by decide +kernel
theorem dX6_possibleOf_170 : decode cX6_possibleOf 170 = .ok (.if_icmp .le 7, 3) := by decide +kernel
theorem dX6_possibleOf_173 : decode cX6_possibleOf 173 = .ok (.iload 6, 2) := by decide +kernel
theorem dX6_possibleOf_175 : decode cX6_possibleOf 175 = .ok (.istore 5, 2) := by decide +kernel
theorem dX6_possibleOf_177 : decode cX6_possibleOf 177 = .ok (.iinc 6 1, 3) := by decide +kernel
theorem dX6_possibleOf_180 : decode cX6_possibleOf 180 = .ok (.goto (-49), 3) := by decide +kernel
theorem dX6_possibleOf_183 : decode cX6_possibleOf 183 = .ok (.aload_n 0, 1) := by decide +kernel
theorem dX6_possibleOf_184 : decode cX6_possibleOf 184 = .ok (.getfield 26, 3) := by decide +kernel
theorem dX6_possibleOf_187 : decode cX6_possibleOf 187 = .ok (.iload 5, 2) := by decide +kernel
theorem dX6_possibleOf_189 : decode cX6_possibleOf 189 = .ok (.iconst 0, 1) := by decide +kernel
theorem dX6_possibleOf_190 : decode cX6_possibleOf 190 = .ok (.bastore, 1) := by decide +kernel
theorem dX6_possibleOf_191 : decode cX6_possibleOf 191 = .ok (.iload_n 2, 1) := by decide +kernel
theorem dX6_possibleOf_192 : decode cX6_possibleOf 192 = .ok (.aload_n 0, 1) := by decide +kernel
theorem dX6_possibleOf_193 : decode cX6_possibleOf 193 = .ok (.iload 5, 2) := by decide +kernel
theorem dX6_possibleOf_195 : decode cX6_possibleOf 195 = .ok (.iconst 2, 1) := by decide +kernel
theorem dX6_possibleOf_196 : decode cX6_possibleOf 196 = .ok (.invokevirtual 100, 3) := by decide +kernel
theorem dX6_possibleOf_199 : decode cX6_possibleOf 199 = .ok (.isub, 1) := by decide +kernel
theorem dX6_possibleOf_200 : decode cX6_possibleOf 200 = .ok (.istore_n 2, 1) := by decide +kernel
theorem dX6_possibleOf_201 : decode cX6_possibleOf 201 = .ok (.iinc 3 (-1), 3) := by decide +kernel
theorem dX6_possibleOf_204 : decode cX6_possibleOf 204 = .ok (.goto (-90), 3) := by decide +kernel
theorem dX6_possibleOf_207 : decode cX6_possibleOf 207 = .ok (.iinc 4 (-1), 3) := by decide +kernel
theorem dX6_possibleOf_210 : decode cX6_possibleOf 210 = .ok (.goto (-176), 3) := by decide +kernel
theorem dX6_possibleOf_213 : decode cX6_possibleOf 213 = .ok (.iload_n 3, 1) := by decide +kernel
theorem dX6_possibleOf_214 : decode cX6_possibleOf 214 = .ok (.ireturn, 1) := by decide +kernel
theorem dX6_possible_0 : decode cX6_possible 0 = .ok (.aload_n 0, 1) := by decide +kernel
theorem dX6_possible_1 : decode cX6_possible 1 = .ok (.iconst 0, 1) := by decide +kernel
theorem dX6_possible_2 : decode cX6_possible 2 = .ok (.putfield 30, 3) := by decide +kernel
theorem dX6_possible_5 : decode cX6_possible 5 = .ok (.iconst 0, 1) := by decide +kernel
theorem dX6_possible_6 : decode cX6_possible 6 = .ok (.istore_n 1, 1) := by decide +kernel
theorem dX6_possible_7 : decode cX6_possible 7 = .ok (.iconst 0, 1) := by decide +kernel
theorem dX6_possible_8 : decode cX6_possible 8 = .ok (.istore_n 2, 1) := by decide +kernel
theorem dX6_possible_9 : decode cX6_possible 9 = .ok (.iload_n 2, 1) := by decide +kernel
theorem dX6_possible_10 : decode cX6_possible 10 = .ok (.iconst 4, 1) := by decide +kernel
theorem dX6_possible_11 : decode cX6_possible 11 = .ok (.if_icmp .ge 17, 3) := by decide +kernel
theorem dX6_possible_14 : decode cX6_possible 14 = .ok (.iload_n 1, 1) := by decide +kernel
theorem dX6_possible_15 : decode cX6_possible 15 = .ok (.aload_n 0, 1) := by decide +kernel
theorem dX6_possible_16 : decode cX6_possible 16 = .ok (.iload_n 2, 1) := by decide +kernel
theorem dX6_possible_17 : decode cX6_possible 17 = .ok (.invokevirtual 154, 3) := by decide +kernel
theorem dX6_possible_20 : decode cX6_possible 20 = .ok (.iadd, 1) := by decide +kernel
theorem dX6_possible_21 : decode cX6_possible 21 = .ok (.istore_n 1, 1) := by decide +kernel
theorem dX6_possible_22 : decode cX6_possible 22 = .ok (.iinc 2 1, 3) := by decide +kernel
theorem dX6_possible_25 : decode cX6_possible 25 = .ok (.goto (-16), 3) := by decide +kernel
theorem dX6_possible_28 : decode cX6_possible 28 = .ok (.iload_n 1, 1) := by decide +kernel
theorem dX6_possible_29 : decode cX6_possible 29 = .ok (.ireturn, 1) := by decide +kernel
theorem dX6_mean_0 : decode cX6_mean 0 = .ok (.aload_n 0, 1) := by decide +kernel
theorem dX6_mean_1 : decode cX6_mean 1 = .ok (.iconst 0, 1) := by decide +kernel
theorem dX6_mean_2 : decode cX6_mean 2 = .ok (.putfield 30, 3) := by decide +kernel
theorem dX6_mean_5 : decode cX6_mean 5 = .ok (.iconst 0, 1) := by decide +kernel
theorem dX6_mean_6 : decode cX6_mean 6 = .ok (.istore_n 1, 1) := by decide +kernel
theorem dX6_mean_7 : decode cX6_mean 7 = .ok (.iconst 0, 1) := by decide +kernel
theorem dX6_mean_8 : decode cX6_mean 8 = .ok (.istore_n 2, 1) := by decide +kernel
theorem dX6_mean_9 : decode cX6_mean 9 = .ok (.iconst 0, 1) := by decide +kernel
theorem dX6_mean_10 : decode cX6_mean 10 = .ok (.istore_n 3, 1) := by decide +kernel
theorem dX6_mean_11 : decode cX6_mean 11 = .ok (.iload_n 3, 1) := by decide +kernel
theorem dX6_mean_12 : decode cX6_mean 12 = .ok (.aload_n 0, 1) := by decide +kernel
theorem dX6_mean_13 : decode cX6_mean 13 = .ok (.getfield 33, 3) := by decide +kernel
theorem dX6_mean_16 : decode cX6_mean 16 = .ok (.if_icmp .ge 34, 3) := by decide +kernel
theorem dX6_mean_19 : decode cX6_mean 19 = .ok (.iload_n 1, 1) := by decide +kernel
theorem dX6_mean_20 : decode cX6_mean 20 = .ok (.aload_n 0, 1) := by decide +kernel
theorem dX6_mean_21 : decode cX6_mean 21 = .ok (.iload_n 3, 1) := by decide +kernel
theorem dX6_mean_22 : decode cX6_mean 22 = .ok (.iconst 2, 1) := by decide +kernel
theorem dX6_mean_23 : decode cX6_mean 23 = .ok (.invokevirtual 59, 3) := by decide +kernel
theorem dX6_mean_26 : decode cX6_mean 26 = .ok (.aload_n 0, 1) := by decide +kernel
theorem dX6_mean_27 : decode cX6_mean 27 = .ok (.iload_n 3, 1) := by decide +kernel
theorem dX6_mean_28 : decode cX6_mean 28 = .ok (.iconst 1, 1) := by decide +kernel
theorem dX6_mean_29 : decode cX6_mean 29 = .ok (.invokevirtual 59, 3) := by decide +kernel
theorem dX6_mean_32 : decode cX6_mean 32 = .ok (.imul, 1) := by decide +kernel
theorem dX6_mean_33 : decode cX6_mean 33 = .ok (.iadd, 1) := by decide +kernel
theorem dX6_mean_34 : decode cX6_mean 34 = .ok (.istore_n 1, 1) := by decide +kernel
theorem dX6_mean_35 : decode cX6_mean 35 = .ok (.iload_n 2, 1) := by decide +kernel
theorem dX6_mean_36 : decode cX6_mean 36 = .ok (.aload_n 0, 1) := by decide +kernel
theorem dX6_mean_37 : decode cX6_mean 37 = .ok (.iload_n 3, 1) := by decide +kernel
theorem dX6_mean_38 : decode cX6_mean 38 = .ok (.iconst 1, 1) := by decide +kernel
theorem dX6_mean_39 : decode cX6_mean 39 = .ok (.invokevirtual 59, 3) := by decide +kernel
theorem dX6_mean_42 : decode cX6_mean 42 = .ok (.iadd, 1) := by decide +kernel
theorem dX6_mean_43 : decode cX6_mean 43 = .ok (.istore_n 2, 1) := by decide +kernel
theorem dX6_mean_44 : decode cX6_mean 44 = .ok (.iinc 3 1, 3) := by decide +kernel
theorem dX6_mean_47 : decode cX6_mean 47 = .ok (.goto (-36), 3) := by decide +kernel
theorem dX6_mean_50 : decode cX6_mean 50 = .ok (.iload_n 2, 1) := by decide +kernel
theorem dX6_mean_51 : decode cX6_mean 51 = .ok (.ifCond .ne 7, 3) := by decide +kernel
theorem dX6_mean_54 : decode cX6_mean 54 = .ok (.dconst 0, 1) := by decide +kernel
theorem dX6_mean_55 : decode cX6_mean 55 = .ok (.goto 8, 3) := by decide +kernel
theorem dX6_mean_58 : decode cX6_mean 58 = .ok (.iload_n 1, 1) := by decide +kernel
theorem dX6_mean_59 : decode cX6_mean 59 = .ok (.i2d, 1) := by decide +kernel
theorem dX6_mean_60 : decode cX6_mean 60 = .ok (.iload_n 2, 1) := by decide +kernel
theorem dX6_mean_61 : decode cX6_mean 61 = .ok (.i2d, 1) := by decide +kernel
theorem dX6_mean_62 : decode cX6_mean 62 = .ok (.ddiv, 1) := by decide +kernel
theorem dX6_mean_63 : decode cX6_mean 63 = .ok (.dreturn, 1) := by decide +kernel
theorem dX6_digest_0 : decode cX6_digest 0 = .ok (.aload_n 0, 1) := by decide +kernel
theorem dX6_digest_1 : decode cX6_digest 1 = .ok (.iconst 0, 1) := by decide +kernel
theorem dX6_digest_2 : decode cX6_digest 2 = .ok (.putfield 30, 3) := by decide +kernel
theorem dX6_digest_5 : decode cX6_digest 5 = .ok (.ldc2_w 157, 3) := by decide +kernel
theorem dX6_digest_8 : decode cX6_digest 8 = .ok (.lstore_n 1, 1) := by decide +kernel
theorem dX6_digest_9 : decode cX6_digest 9 = .ok (.iconst 0, 1) := by decide +kernel
theorem dX6_digest_10 : decode cX6_digest 10 = .ok (.istore_n 3, 1) := by decide +kernel
theorem dX6_digest_11 : decode cX6_digest 11 = .ok (.iload_n 3, 1) := by decide +kernel
theorem dX6_digest_12 : decode cX6_digest 12 = .ok (.bipush 9, 2) := by decide +kernel
theorem dX6_digest_14 : decode cX6_digest 14 = .ok (.if_icmp .ge 22, 3) := by decide +kernel
theorem dX6_digest_17 : decode cX6_digest 17 = .ok (.lload_n 1, 1) := by decide +kernel
theorem dX6_digest_18 : decode cX6_digest 18 = .ok (.ldc2_w 159, 3) := by decide +kernel
theorem dX6_digest_21 : decode cX6_digest 21 = .ok (.lmul, 1) := by decide +kernel
theorem dX6_digest_22 : decode cX6_digest 22 = .ok (.aload_n 0, 1) := by decide +kernel
theorem dX6_digest_23 : decode cX6_digest 23 = .ok (.iload_n 3, 1) := by decide +kernel
theorem dX6_digest_24 : decode cX6_digest 24 = .ok (.invokevirtual 147, 3) := by decide +kernel
theorem dX6_digest_27 : decode cX6_digest 27 = .ok (.i2l, 1) := by decide +kernel
theorem dX6_digest_28 : decode cX6_digest 28 = .ok (.ladd, 1) := by decide +kernel
theorem dX6_digest_29 : decode cX6_digest 29 = .ok (.lstore_n 1, 1) := by decide +kernel
theorem dX6_digest_30 : decode cX6_digest 30 = .ok (.iinc 3 1, 3) := by decide +kernel
theorem dX6_digest_33 : decode cX6_digest 33 = .ok (.goto (-22), 3) := by decide +kernel
theorem dX6_digest_36 : decode cX6_digest 36 = .ok (.iconst 0, 1) := by decide +kernel
theorem dX6_digest_37 : decode cX6_digest 37 = .ok (.istore_n 3, 1) := by decide +kernel
theorem dX6_digest_38 : decode cX6_digest 38 = .ok (.iload_n 3, 1) := by decide +kernel
theorem dX6_digest_39 : decode cX6_digest 39 = .ok (.iconst 4, 1) := by decide +kernel
theorem dX6_digest_40 : decode cX6_digest 40 = .ok (.if_icmp .ge 22, 3) := by decide +kernel
theorem dX6_digest_43 : decode cX6_digest 43 = .ok (.lload_n 1, 1) := by decide +kernel
theorem dX6_digest_44 : decode cX6_digest 44 = .ok (.ldc2_w 159, 3) := by decide +kernel
theorem dX6_digest_47 : decode cX6_digest 47 = .ok (.lmul, 1) := by decide +kernel
theorem dX6_digest_48 : decode cX6_digest 48 = .ok (.aload_n 0, 1) := by decide +kernel
theorem dX6_digest_49 : decode cX6_digest 49 = .ok (.iload_n 3, 1) := by decide +kernel
theorem dX6_digest_50 : decode cX6_digest 50 = .ok (.invokevirtual 50, 3) := by decide +kernel
theorem dX6_digest_53 : decode cX6_digest 53 = .ok (.i2l, 1) := by decide +kernel
theorem dX6_digest_54 : decode cX6_digest 54 = .ok (.ladd, 1) := by decide +kernel
theorem dX6_digest_55 : decode cX6_digest 55 = .ok (.lstore_n 1, 1) := by decide +kernel
theorem dX6_digest_56 : decode cX6_digest 56 = .ok (.iinc 3 1, 3) := by decide +kernel
theorem dX6_digest_59 : decode cX6_digest 59 = .ok (.goto (-21), 3) := by decide +kernel
