theorem dX7_order_67 : decode cX7_order 67 = .ok (.iload 4, 2) := by decide +kernel
theorem dX7_order_69 : decode cX7_order 69 = .ok (.iastore, 1) := by decide +kernel
theorem dX7_order_70 : decode cX7_order 70 = .ok (.dup, 1) := by decide +kernel
theorem dX7_order_71 : decode cX7_order 71 = .ok (.iconst 4, 1) := by decide +kernel
theorem dX7_order_72 : decode cX7_order 72 = .ok (.iconst 0, 1) := by decide +kernel
theorem dX7_order_73 : decode cX7_order 73 = .ok (.iastore, 1) := by decide +kernel
theorem dX7_order_74 : decode cX7_order 74 = .ok (.aastore, 1) := by decide +kernel
theorem dX7_order_75 : decode cX7_order 75 = .ok (.aload_n 0, 1) := by decide +kernel
theorem dX7_order_76 : decode cX7_order 76 = .ok (.aload 5, 2) := by decide +kernel
theorem dX7_order_78 : decode cX7_order 78 = .ok (.putfield 26, 3) := by decide +kernel
theorem dX7_order_81 : decode cX7_order 81 = .ok (.return_, 1) := by decide +kernel
theorem dX7_at_0 : decode cX7_at 0 = .ok (.iconst 0, 1) := by decide +kernel
theorem dX7_at_1 : decode cX7_at 1 = .ok (.istore_n 2, 1) := by decide +kernel
theorem dX7_at_2 : decode cX7_at 2 = .ok (.iload_n 2, 1) := by decide +kernel
theorem dX7_at_3 : decode cX7_at 3 = .ok (.aload_n 0, 1) := by decide +kernel
theorem dX7_at_4 : decode cX7_at 4 = .ok (.getfield 15, 3) := by decide +kernel
theorem dX7_at_7 : decode cX7_at 7 = .ok (.arraylength, 1) := by decide +kernel
theorem dX7_at_8 : decode cX7_at 8 = .ok (.if_icmp .ge 24, 3) := by decide +kernel
theorem dX7_at_11 : decode cX7_at 11 = .ok (.aload_n 0, 1) := by decide +kernel
theorem dX7_at_12 : decode cX7_at 12 = .ok (.getfield 15, 3) := by decide +kernel
theorem dX7_at_15 : decode cX7_at 15 = .ok (.iload_n 2, 1) := by decide +kernel
theorem dX7_at_16 : decode cX7_at 16 = .ok (.aaload, 1) := by decide +kernel
theorem dX7_at_17 : decode cX7_at 17 = .ok (.getfield 50, 3) := by decide +kernel
theorem dX7_at_20 : decode cX7_at 20 = .ok (.iload_n 1, 1) := by decide +kernel
theorem dX7_at_21 : decode cX7_at 21 = .ok (.if_icmp .ne 5, 3) := by decide +kernel
theorem dX7_at_24 : decode cX7_at 24 = .ok (.iload_n 2, 1) := by decide +kernel
theorem dX7_at_25 : decode cX7_at 25 = .ok (.ireturn, 1) := by decide +kernel
theorem dX7_at_26 : decode cX7_at 26 = .ok (.iinc 2 1, 3) := by decide +kernel
theorem dX7_at_29 : decode cX7_at 29 = .ok (.goto (-27), 3) := by decide +kernel
theorem dX7_at_32 : decode cX7_at 32 = .ok (.iconst (-1), 1) := by decide +kernel
theorem dX7_at_33 : decode cX7_at 33 = .ok (.ireturn, 1) := by decide +kernel
theorem dX7_grows_0 : decode cX7_grows 0 = .ok (.aload_n 1, 1) := by decide +kernel
theorem dX7_grows_1 : decode cX7_grows 1 = .ok (.getfield 50, 3) := by decide +kernel
theorem dX7_grows_4 : decode cX7_grows 4 = .ok (.ifCond .lt 12, 3) := by decide +kernel
theorem dX7_grows_7 : decode cX7_grows 7 = .ok (.aload_n 0, 1) := by decide +kernel
theorem dX7_grows_8 : decode cX7_grows 8 = .ok (.getfield 7, 3) := by decide +kernel
theorem dX7_grows_11 : decode cX7_grows 11 = .ok (.bipush 60, 2) := by decide +kernel
theorem dX7_grows_13 : decode cX7_grows 13 = .ok (.if_icmp .ge 7, 3) := by decide +kernel
theorem dX7_grows_16 : decode cX7_grows 16 = .ok (.sipush (-1000), 3) := by decide +kernel
theorem dX7_grows_19 : decode cX7_grows 19 = .ok (.ireturn, 1) := by decide +kernel
theorem dX7_grows_20 : decode cX7_grows 20 = .ok (.aload_n 1, 1) := by decide +kernel
theorem dX7_grows_21 : decode cX7_grows 21 = .ok (.getfield 53, 3) := by decide +kernel
theorem dX7_grows_24 : decode cX7_grows 24 = .ok (.bipush 70, 2) := by decide +kernel
theorem dX7_grows_26 : decode cX7_grows 26 = .ok (.if_icmp .le 37, 3) := by decide +kernel
theorem dX7_grows_29 : decode cX7_grows 29 = .ok (.aload_n 1, 1) := by decide +kernel
theorem dX7_grows_30 : decode cX7_grows 30 = .ok (.getfield 56, 3) := by decide +kernel
theorem dX7_grows_33 : decode cX7_grows 33 = .ok (.aload_n 0, 1) := by decide +kernel
theorem dX7_grows_34 : decode cX7_grows 34 = .ok (.getfield 7, 3) := by decide +kernel
theorem dX7_grows_37 : decode cX7_grows 37 = .ok (.bipush 55, 2) := by decide +kernel
theorem dX7_grows_39 : decode cX7_grows 39 = .ok (.isub, 1) := by decide +kernel
theorem dX7_grows_40 : decode cX7_grows 40 = .ok (.iconst 5, 1) := by decide +kernel
theorem dX7_grows_41 : decode cX7_grows 41 = .ok (.idiv, 1) := by decide +kernel
theorem dX7_grows_42 : decode cX7_grows 42 = .ok (.if_icmp .le 15, 3) := by decide +kernel
theorem dX7_grows_45 : decode cX7_grows 45 = .ok (.bipush 55, 2) := by decide +kernel
theorem dX7_grows_47 : decode cX7_grows 47 = .ok (.aload_n 0, 1) := by decide +kernel
theorem dX7_grows_48 : decode cX7_grows 48 = .ok (.getfield 7, 3) := by decide +kernel
theorem dX7_grows_51 : decode cX7_grows 51 = .ok (.isub, 1) := by decide +kernel
theorem dX7_grows_52 : decode cX7_grows 52 = .ok (.iconst 5, 1) := by decide +kernel
theorem dX7_grows_53 : decode cX7_grows 53 = .ok (.idiv, 1) := by decide +kernel
theorem dX7_grows_54 : decode cX7_grows 54 = .ok (.goto 8, 3) := by decide +kernel
theorem dX7_grows_57 : decode cX7_grows 57 = .ok (.aload_n 1, 1) := by decide +kernel
theorem dX7_grows_58 : decode cX7_grows 58 = .ok (.getfield 56, 3) := by decide +kernel
theorem dX7_grows_61 : decode cX7_grows 61 = .ok (.ineg, 1) := by decide +kernel
theorem dX7_grows_62 : decode cX7_grows 62 = .ok (.ireturn, 1) := by decide +kernel
theorem dX7_grows_63 : decode cX7_grows 63 = .ok (.bipush 12, 2) := by decide +kernel
theorem dX7_grows_65 : decode cX7_grows 65 = .ok (.aload_n 0, 1) := by decide +kernel
theorem dX7_grows_66 : decode cX7_grows 66 = .ok (.getfield 7, 3) := by decide +kernel
theorem dX7_grows_69 : decode cX7_grows 69 = .ok (.bipush 60, 2) := by decide +kernel
theorem dX7_grows_71 : decode cX7_grows 71 = .ok (.isub, 1) := by decide +kernel
theorem dX7_grows_72 : decode cX7_grows 72 = .ok (.bipush 8, 2) := by decide +kernel
theorem dX7_grows_74 : decode cX7_grows 74 = .ok (.idiv, 1) := by decide +kernel
theorem dX7_grows_75 : decode cX7_grows 75 = .ok (.isub, 1) := by decide +kernel
theorem dX7_grows_76 : decode cX7_grows 76 = .ok (.istore_n 2, 1) := by decide +kernel
theorem dX7_grows_77 : decode cX7_grows 77 = .ok (.aload_n 1, 1) := by decide +kernel
theorem dX7_grows_78 : decode cX7_grows 78 = .ok (.getfield 56, 3) := by decide +kernel
theorem dX7_grows_81 : decode cX7_grows 81 = .ok (.ifCond .ne 6, 3) := by decide +kernel
theorem dX7_grows_84 : decode cX7_grows 84 = .ok (.iinc 2 4, 3) := by decide +kernel
theorem dX7_grows_87 : decode cX7_grows 87 = .ok (.aload_n 1, 1) := by decide +kernel
theorem dX7_grows_88 : decode cX7_grows 88 = .ok (.getfield 44, 3) := by decide +kernel
theorem dX7_grows_91 : decode cX7_grows 91 = .ok (.iconst 3, 1) := by decide +kernel
theorem dX7_grows_92 : decode cX7_grows 92 = .ok (.if_icmp .ne 6, 3) := by decide +kernel
theorem dX7_grows_95 : decode cX7_grows 95 = .ok (.iinc 2 (-3), 3) := by decide +kernel
theorem dX7_grows_98 : decode cX7_grows 98 = .ok (.aload_n 1, 1) := by decide +kernel
theorem dX7_grows_99 : decode cX7_grows 99 = .ok (.getfield 56, 3) := by decide +kernel
theorem dX7_grows_102 : decode cX7_grows 102 = .ok (.iload_n 2, 1) := by decide +kernel
theorem dX7_grows_103 : decode cX7_grows 103 = .ok (.iadd, 1) := by decide +kernel
theorem dX7_grows_104 : decode cX7_grows 104 = .ok (.sipush 400, 3) := by decide +kernel
theorem dX7_grows_107 : decode cX7_grows 107 = .ok (.if_icmp .le 12, 3) := by decide +kernel
theorem dX7_grows_110 : decode cX7_grows 110 = .ok (.sipush 400, 3) := by decide +kernel
theorem dX7_grows_113 : decode cX7_grows 113 = .ok (.aload_n 1, 1) := by decide +kernel
theorem dX7_grows_114 : decode cX7_grows 114 = .ok (.getfield 56, 3) := by decide +kernel
theorem dX7_grows_117 : decode cX7_grows 117 = .ok (.isub, 1) := by decide +kernel
theorem dX7_grows_118 : decode cX7_grows 118 = .ok (.istore_n 2, 1) := by decide +kernel
theorem dX7_grows_119 : decode cX7_grows 119 = .ok (.iload_n 2, 1) := by decide +kernel
theorem dX7_grows_120 : decode cX7_grows 120 = .ok (.bipush 8, 2) := by decide +kernel
theorem dX7_grows_122 : decode cX7_grows 122 = .ok (.aload_n 1, 1) := by decide +kernel
theorem dX7_grows_123 : decode cX7_grows 123 = .ok (.getfield 44, 3) := by decide +kernel
theorem dX7_grows_126 : decode cX7_grows 126 = .ok (.iadd, 1) := by decide +kernel
theorem dX7_grows_127 : decode cX7_grows 127 = .ok (.imul, 1) := by decide +kernel
theorem dX7_grows_128 : decode cX7_grows 128 = .ok (.aload_n 1, 1) := by decide +kernel
theorem dX7_grows_129 : decode cX7_grows 129 = .ok (.getfield 47, 3) := by decide +kernel
theorem dX7_grows_132 : decode cX7_grows 132 = .ok (.imul, 1) := by decide +kernel
theorem dX7_grows_133 : decode cX7_grows 133 = .ok (.bipush 10, 2) := by decide +kernel
theorem dX7_grows_135 : decode cX7_grows 135 = .ok (.idiv, 1) := by decide +kernel
theorem dX7_grows_136 : decode cX7_grows 136 = .ok (.aload_n 0, 1) := by decide +kernel
theorem dX7_grows_137 : decode cX7_grows 137 = .ok (.getfield 30, 3) := by decide +kernel
theorem dX7_grows_140 : decode cX7_grows 140 = .ok (.if_icmp .le 9, 3) := by decide +kernel
theorem dX7_grows_143 : decode cX7_grows 143 = .ok (.sipush (-1000), 3) := by decide +kernel
theorem dX7_grows_146 : decode cX7_grows 146 = .ok (.goto 4, 3) := by decide +kernel
theorem dX7_grows_149 : decode cX7_grows 149 = .ok (.iload_n 2, 1) := by decide +kernel
theorem dX7_grows_150 : decode cX7_grows 150 = .ok (.ireturn, 1) := by decide +kernel
theorem dX7_dip_0 : decode cX7_dip 0 = .ok (.aload_n 0, 1) := by decide +kernel
theorem dX7_dip_1 : decode cX7_dip 1 = .ok (.aload_n 1, 1) := by decide +kernel
theorem dX7_dip_2 : decode cX7_dip 2 = .ok (.invokevirtual 59, 3) := by decide +kernel
theorem dX7_dip_5 : decode cX7_dip 5 = .ok (.istore_n 2, 1) := by decide +kernel
theorem dX7_dip_6 : decode cX7_dip 6 = .ok (.aload_n 1, 1) := by decide +kernel
theorem dX7_dip_7 : decode cX7_dip 7 = .ok (.getfield 53, 3) := by decide +kernel
theorem dX7_dip_10 : decode cX7_dip 10 = .ok (.bipush 70, 2) := by decide +kernel
theorem dX7_dip_12 : decode cX7_dip 12 = .ok (.if_icmp .le 34, 3) := by decide +kernel
theorem dX7_dip_15 : decode cX7_dip 15 = .ok (.aload_n 1, 1) := by decide +kernel
theorem dX7_dip_16 : decode cX7_dip 16 = .ok (.dup, 1) := by decide +kernel
theorem dX7_dip_17 : decode cX7_dip 17 = .ok (.getfield 56, 3) := by decide +kernel
theorem dX7_dip_20 : decode cX7_dip 20 = .ok (.iload_n 2, 1) := by decide +kernel
theorem dX7_dip_21 : decode cX7_dip 21 = .ok (.iadd, 1) := by decide +kernel
theorem dX7_dip_22 : decode cX7_dip 22 = .ok (.putfield 56, 3) := by decide +kernel
theorem dX7_dip_25 : decode cX7_dip 25 = .ok (.aload_n 1, 1) := by decide +kernel
theorem dX7_dip_26 : decode cX7_dip 26 = .ok (.bipush 100, 2) := by decide +kernel
theorem dX7_dip_28 : decode cX7_dip 28 = .ok (.putfield 53, 3) := by decide +kernel
theorem dX7_dip_31 : decode cX7_dip 31 = .ok (.aload_n 1, 1) := by decide +kernel
theorem dX7_dip_32 : decode cX7_dip 32 = .ok (.getfield 56, 3) := by decide +kernel
theorem dX7_dip_35 : decode cX7_dip 35 = .ok (.ifCond .ne 88, 3) := by decide +kernel
theorem dX7_dip_38 : decode cX7_dip 38 = .ok (.aload_n 1, 1) := by decide +kernel
theorem dX7_dip_39 : decode cX7_dip 39 = .ok (.iconst 0, 1) := by decide +kernel
theorem dX7_dip_40 : decode cX7_dip 40 = .ok (.putfield 63, 3) := by decide +kernel
theorem dX7_dip_43 : decode cX7_dip 43 = .ok (.goto 80, 3) := by decide +kernel
theorem dX7_dip_46 : decode cX7_dip 46 = .ok (.aload_n 0, 1) := by decide +kernel
theorem dX7_dip_47 : decode cX7_dip 47 = .ok (.dup, 1) := by decide +kernel
theorem dX7_dip_48 : decode cX7_dip 48 = .ok (.getfield 30, 3) := by decide +kernel
theorem dX7_dip_51 : decode cX7_dip 51 = .ok (.iload_n 2, 1) := by decide +kernel
theorem dX7_dip_52 : decode cX7_dip 52 = .ok (.bipush 8, 2) := by decide +kernel
theorem dX7_dip_54 : decode cX7_dip 54 = .ok (.aload_n 1, 1) := by decide +kernel
theorem dX7_dip_55 : decode cX7_dip 55 = .ok (.getfield 44, 3) := by decide +kernel
theorem dX7_dip_58 : decode cX7_dip 58 = .ok (.iadd, 1) := by decide +kernel
theorem dX7_dip_59 : decode cX7_dip 59 = .ok (.imul, 1) := by decide +kernel
theorem dX7_dip_60 : decode cX7_dip 60 = .ok (.aload_n 1, 1) := by decide +kernel
theorem dX7_dip_61 : decode cX7_dip 61 = .ok (.getfield 47, 3) := by decide +kernel
theorem dX7_dip_64 : decode cX7_dip 64 = .ok (.imul, 1) := by decide +kernel
theorem dX7_dip_65 : decode cX7_dip 65 = .ok (.bipush 10, 2) := by decide +kernel
theorem dX7_dip_67 : decode cX7_dip 67 = .ok (.idiv, 1) := by decide +kernel
theorem dX7_dip_68 : decode cX7_dip 68 = .ok (.isub, 1) := by decide +kernel
theorem dX7_dip_69 : decode cX7_dip 69 = .ok (.putfield 30, 3) := by decide +kernel
theorem dX7_dip_72 : decode cX7_dip 72 = .ok (.aload_n 1, 1) := by decide +kernel
theorem dX7_dip_73 : decode cX7_dip 73 = .ok (.getfield 56, 3) := by decide +kernel
theorem dX7_dip_76 : decode cX7_dip 76 = .ok (.ifCond .le 17, 3) := by decide +kernel
theorem dX7_dip_79 : decode cX7_dip 79 = .ok (.aload_n 1, 1) := by decide +kernel
theorem dX7_dip_80 : decode cX7_dip 80 = .ok (.getfield 53, 3) := by decide +kernel
theorem dX7_dip_83 : decode cX7_dip 83 = .ok (.bipush 10, 2) := by decide +kernel
theorem dX7_dip_85 : decode cX7_dip 85 = .ok (.if_icmp .ge 8, 3) := by decide +kernel
theorem dX7_dip_88 : decode cX7_dip 88 = .ok (.aload_n 1, 1) := by decide +kernel
theorem dX7_dip_89 : decode cX7_dip 89 = .ok (.iconst 1, 1) := by decide +kernel
theorem dX7_dip_90 : decode cX7_dip 90 = .ok (.putfield 63, 3) := by decide +kernel
theorem dX7_dip_93 : decode cX7_dip 93 = .ok (.aload_n 1, 1) := by decide +kernel
theorem dX7_dip_94 : decode cX7_dip 94 = .ok (.dup, 1) := by decide +kernel
theorem dX7_dip_95 : decode cX7_dip 95 = .ok (.getfield 56, 3) := by decide +kernel
theorem dX7_dip_98 : decode cX7_dip 98 = .ok (.iload_n 2, 1) := by decide +kernel
theorem dX7_dip_99 : decode cX7_dip 99 = .ok (.iadd, 1) := by decide +kernel
theorem dX7_dip_100 : decode cX7_dip 100 = .ok (.putfield 56, 3) := by decide +kernel
theorem dX7_dip_103 : decode cX7_dip 103 = .ok (.aload_n 1, 1) := by decide +kernel
theorem dX7_dip_104 : decode cX7_dip 104 = .ok (.bipush 100, 2) := by decide +kernel
theorem dX7_dip_106 : decode cX7_dip 106 = .ok (.aload_n 1, 1) := by decide +kernel
theorem dX7_dip_107 : decode cX7_dip 107 = .ok (.getfield 53, 3) := by decide +kernel
theorem dX7_dip_110 : decode cX7_dip 110 = .ok (.aload_n 0, 1) := by decide +kernel
theorem dX7_dip_111 : decode cX7_dip 111 = .ok (.getfield 7, 3) := by decide +kernel
theorem dX7_dip_114 : decode cX7_dip 114 = .ok (.iadd, 1) := by decide +kernel
theorem dX7_dip_115 : decode cX7_dip 115 = .ok (.iconst 2, 1) := by decide +kernel
theorem dX7_dip_116 : decode cX7_dip 116 = .ok (.idiv, 1) := by decide +kernel
theorem dX7_dip_117 : decode cX7_dip 117 = .ok (.invokestatic 67, 3) := by decide +kernel
theorem dX7_dip_120 : decode cX7_dip 120 = .ok (.putfield 53, 3) := by decide +kernel
theorem dX7_dip_123 : decode cX7_dip 123 = .ok (.aload_n 1, 1) := by decide +kernel
theorem dX7_dip_124 : decode cX7_dip 124 = .ok (.dup, 1) := by decide +kernel
theorem dX7_dip_125 : decode cX7_dip 125 = .ok (.getfield 73, 3) := by decide +kernel
theorem dX7_dip_128 : decode cX7_dip 128 = .ok (.iconst 1, 1) := by decide +kernel
theorem dX7_dip_129 : decode cX7_dip 129 = .ok (.iadd, 1) := by decide +kernel
theorem dX7_dip_130 : decode cX7_dip 130 = .ok (.putfield 73, 3) := by decide +kernel
theorem dX7_dip_133 : decode cX7_dip 133 = .ok (.aload_n 0, 1) := by decide +kernel
theorem dX7_dip_134 : decode cX7_dip 134 = .ok (.dup, 1) := by decide +kernel
theorem dX7_dip_135 : decode cX7_dip 135 = .ok (.getfield 76, 3) := by decide +kernel
theorem dX7_dip_138 : decode cX7_dip 138 = .ok (.iconst 1, 1) := by decide +kernel
theorem dX7_dip_139 : decode cX7_dip 139 = .ok (.iadd, 1) := by decide +kernel
theorem dX7_dip_140 : decode cX7_dip 140 = .ok (.putfield 76, 3) := by decide +kernel
theorem dX7_dip_143 : decode cX7_dip 143 = .ok (.aload_n 0, 1) := by decide +kernel
theorem dX7_dip_144 : decode cX7_dip 144 = .ok (.aload_n 1, 1) := by decide +kernel
theorem dX7_dip_145 : decode cX7_dip 145 = .ok (.invokevirtual 77, 3) := by decide +kernel
theorem dX7_dip_148 : decode cX7_dip 148 = .ok (.return_, 1) := by decide +kernel
theorem dX7_pass_0 : decode cX7_pass 0 = .ok (.aload_n 0, 1) := by decide +kernel
theorem dX7_pass_1 : decode cX7_pass 1 = .ok (.getfield 7, 3) := by decide +kernel
theorem dX7_pass_4 : decode cX7_pass 4 = .ok (.bipush 6, 2) := by decide +kernel
theorem dX7_pass_6 : decode cX7_pass 6 = .ok (.aload_n 0, 1) := by decide +kernel
theorem dX7_pass_7 : decode cX7_pass 7 = .ok (.getfield 33, 3) := by decide +kernel
theorem dX7_pass_10 : decode cX7_pass 10 = .ok (.imul, 1) := by decide +kernel
theorem dX7_pass_11 : decode cX7_pass 11 = .ok (.iadd, 1) := by decide +kernel
theorem dX7_pass_12 : decode cX7_pass 12 = .ok (.istore_n 2, 1) := by decide +kernel
theorem dX7_pass_13 : decode cX7_pass 13 = .ok (.iload_n 2, 1) := by decide +kernel
theorem dX7_pass_14 : decode cX7_pass 14 = .ok (.iload_n 2, 1) := by decide +kernel
theorem dX7_pass_15 : decode cX7_pass 15 = .ok (.bipush 20, 2) := by decide +kernel
theorem dX7_pass_17 : decode cX7_pass 17 = .ok (.isub, 1) := by decide +kernel
theorem dX7_pass_18 : decode cX7_pass 18 = .ok (.bipush 10, 2) := by decide +kernel
theorem dX7_pass_20 : decode cX7_pass 20 = .ok (.idiv, 1) := by decide +kernel
theorem dX7_pass_21 : decode cX7_pass 21 = .ok (.isub, 1) := by decide +kernel
theorem dX7_pass_22 : decode cX7_pass 22 = .ok (.istore_n 2, 1) := by decide +kernel
theorem dX7_pass_23 : decode cX7_pass 23 = .ok (.aload_n 0, 1) := by decide +kernel
theorem dX7_pass_24 : decode cX7_pass 24 = .ok (.iload_n 2, 1) := by decide +kernel
theorem dX7_pass_25 : decode cX7_pass 25 = .ok (.ifCond .ge 7, 3) := by decide +kernel
theorem dX7_pass_28 : decode cX7_pass 28 = .ok (.iconst 0, 1) := by decide +kernel
theorem dX7_pass_29 : decode cX7_pass 29 = .ok (.goto 15, 3) := by decide +kernel
theorem dX7_pass_32 : decode cX7_pass 32 = .ok (.iload_n 2, 1) := by decide +kernel
theorem dX7_pass_33 : decode cX7_pass 33 = .ok (.bipush 120, 2) := by decide +kernel
theorem dX7_pass_35 : decode cX7_pass 35 = .ok (.if_icmp .le 8, 3) := by decide +kernel
theorem dX7_pass_38 : decode cX7_pass 38 = .ok (.bipush 120, 2) := by decide +kernel
theorem dX7_pass_40 : decode cX7_pass 40 = .ok (.goto 4, 3) := by decide +kernel
theorem dX7_pass_43 : decode cX7_pass 43 = .ok (.iload_n 2, 1) := by decide +kernel
theorem dX7_pass_44 : decode cX7_pass 44 = .ok (.putfield 7, 3) := by decide +kernel
theorem dX7_pass_47 : decode cX7_pass 47 = .ok (.aload_n 0, 1) := by decide +kernel
theorem dX7_pass_48 : decode cX7_pass 48 = .ok (.getfield 15, 3) := by decide +kernel
theorem dX7_pass_51 : decode cX7_pass 51 = .ok (.astore_n 3, 1) := by decide +kernel
theorem dX7_pass_52 : decode cX7_pass 52 = .ok (.aload_n 3, 1) := by decide +kernel
theorem dX7_pass_53 : decode cX7_pass 53 = .ok (.arraylength, 1) := by decide +kernel
theorem dX7_pass_54 : decode cX7_pass 54 = .ok (.istore 4, 2) := by decide +kernel
theorem dX7_pass_56 : decode cX7_pass 56 = .ok (.iconst 0, 1) := by decide +kernel
theorem dX7_pass_57 : decode cX7_pass 57 = .ok (.istore 5, 2) := by decide +kernel
theorem dX7_pass_59 : decode cX7_pass 59 = .ok (.iload 5, 2) := by decide +kernel
theorem dX7_pass_61 : decode cX7_pass 61 = .ok (.iload 4, 2) := by decide +kernel
theorem dX7_pass_63 : decode cX7_pass 63 = .ok (.if_icmp .ge 79, 3) := by decide +kernel
theorem dX7_pass_66 : decode cX7_pass 66 = .ok (.aload_n 3, 1) := by decide +kernel
theorem dX7_pass_67 : decode cX7_pass 67 = .ok (.iload 5, 2) := by decide +kernel
theorem dX7_pass_69 : decode cX7_pass 69 = .ok (.aaload, 1) := by decide +kernel
theorem dX7_pass_70 : decode cX7_pass 70 = .ok (.astore 6, 2) := by decide +kernel
theorem dX7_pass_72 : decode cX7_pass 72 = .ok (.aload 6, 2) := by decide +kernel
theorem dX7_pass_74 : decode cX7_pass 74 = .ok (.getfield 50, 3) := by decide +kernel
theorem dX7_pass_77 : decode cX7_pass 77 = .ok (.ifCond .ge 7, 3) := by decide +kernel
theorem dX7_pass_80 : decode cX7_pass 80 = .ok (.iconst 3, 1) := by decide +kernel
theorem dX7_pass_81 : decode cX7_pass 81 = .ok (.goto 20, 3) := by decide +kernel
theorem dX7_pass_84 : decode cX7_pass 84 = .ok (.aload 6, 2) := by decide +kernel
theorem dX7_pass_86 : decode cX7_pass 86 = .ok (.getfield 50, 3) := by decide +kernel
theorem dX7_pass_89 : decode cX7_pass 89 = .ok (.bipush 6, 2) := by decide +kernel
theorem dX7_pass_91 : decode cX7_pass 91 = .ok (.if_icmp .ge 8, 3) := by decide +kernel
theorem dX7_pass_94 : decode cX7_pass 94 = .ok (.bipush 12, 2) := by decide +kernel
theorem dX7_pass_96 : decode cX7_pass 96 = .ok (.goto 5, 3) := by decide +kernel
theorem dX7_pass_99 : decode cX7_pass 99 = .ok (.bipush 6, 2) := by decide +kernel
theorem dX7_pass_101 : decode cX7_pass 101 = .ok (.istore 7, 2) := by decide +kernel
theorem dX7_pass_103 : decode cX7_pass 103 = .ok (.aload 6, 2) := by decide +kernel
theorem dX7_pass_105 : decode cX7_pass 105 = .ok (.aload_n 1, 1) := by decide +kernel
theorem dX7_pass_106 : decode cX7_pass 106 = .ok (.if_acmp .eq 30, 3) := by decide +kernel
theorem dX7_pass_109 : decode cX7_pass 109 = .ok (.aload 6, 2) := by decide +kernel
theorem dX7_pass_111 : decode cX7_pass 111 = .ok (.aload 6, 2) := by decide +kernel
theorem dX7_pass_113 : decode cX7_pass 113 = .ok (.getfield 53, 3) := by decide +kernel
theorem dX7_pass_116 : decode cX7_pass 116 = .ok (.iload 7, 2) := by decide +kernel
theorem dX7_pass_118 : decode cX7_pass 118 = .ok (.if_icmp .le 14, 3) := by decide +kernel
theorem dX7_pass_121 : decode cX7_pass 121 = .ok (.aload 6, 2) := by decide +kernel
theorem dX7_pass_123 : decode cX7_pass 123 = .ok (.getfield 53, 3) := by decide +kernel
theorem dX7_pass_126 : decode cX7_pass 126 = .ok (.iload 7, 2) := by decide +kernel
theorem dX7_pass_128 : decode cX7_pass 128 = .ok (.isub, 1) := by decide +kernel
theorem dX7_pass_129 : decode cX7_pass 129 = .ok (.goto 4, 3) := by decide +kernel
theorem dX7_pass_132 : decode cX7_pass 132 = .ok (.iconst 0, 1) := by decide +kernel
theorem dX7_pass_133 : decode cX7_pass 133 = .ok (.putfield 53, 3) := by decide +kernel
theorem dX7_pass_136 : decode cX7_pass 136 = .ok (.iinc 5 1, 3) := by decide +kernel
theorem dX7_pass_139 : decode cX7_pass 139 = .ok (.goto (-80), 3) := by decide +kernel
theorem dX7_pass_142 : decode cX7_pass 142 = .ok (.aload_n 0, 1) := by decide +kernel
theorem dX7_pass_143 : decode cX7_pass 143 = .ok (.dup, 1) := by decide +kernel
theorem dX7_pass_144 : decode cX7_pass 144 = .ok (.getfield 40, 3) := by decide +kernel
theorem dX7_pass_147 : decode cX7_pass 147 = .ok (.iconst 1, 1) := by decide +kernel
theorem dX7_pass_148 : decode cX7_pass 148 = .ok (.iadd, 1) := by decide +kernel
theorem dX7_pass_149 : decode cX7_pass 149 = .ok (.putfield 40, 3) := by decide +kernel
theorem dX7_pass_152 : decode cX7_pass 152 = .ok (.aload_n 0, 1) := by decide +kernel
theorem dX7_pass_153 : decode cX7_pass 153 = .ok (.getfield 26, 3) := by decide +kernel
theorem dX7_pass_156 : decode cX7_pass 156 = .ok (.astore_n 3, 1) := by decide +kernel
theorem dX7_pass_157 : decode cX7_pass 157 = .ok (.aload_n 3, 1) := by decide +kernel
theorem dX7_pass_158 : decode cX7_pass 158 = .ok (.arraylength, 1) := by decide +kernel
theorem dX7_pass_159 : decode cX7_pass 159 = .ok (.istore 4, 2) := by decide +kernel
theorem dX7_pass_161 : decode cX7_pass 161 = .ok (.iconst 0, 1) := by decide +kernel
theorem dX7_pass_162 : decode cX7_pass 162 = .ok (.istore 5, 2) := by decide +kernel
theorem dX7_pass_164 : decode cX7_pass 164 = .ok (.iload 5, 2) := by decide +kernel
theorem dX7_pass_166 : decode cX7_pass 166 = .ok (.iload 4, 2) := by decide +kernel
theorem dX7_pass_168 : decode cX7_pass 168 = .ok (.if_icmp .ge 54, 3) := by decide +kernel
theorem dX7_pass_171 : decode cX7_pass 171 = .ok (.aload_n 3, 1) := by decide +kernel
theorem dX7_pass_172 : decode cX7_pass 172 = .ok (.iload 5, 2) := by decide +kernel
theorem dX7_pass_174 : decode cX7_pass 174 = .ok (.aaload, 1) := by decide +kernel
theorem dX7_pass_175 : decode cX7_pass 175 = .ok (.astore 6, 2) := by decide +kernel
theorem dX7_pass_177 : decode cX7_pass 177 = .ok (.aload_n 0, 1) := by decide +kernel
theorem dX7_pass_178 : decode cX7_pass 178 = .ok (.getfield 40, 3) := by decide +kernel
theorem dX7_pass_181 : decode cX7_pass 181 = .ok (.bipush 40, 2) := by decide +kernel
theorem dX7_pass_183 : decode cX7_pass 183 = .ok (.irem, 1) := by decide +kernel
theorem dX7_pass_184 : decode cX7_pass 184 = .ok (.ifCond .ne 32, 3) := by decide +kernel
theorem dX7_pass_187 : decode cX7_pass 187 = .ok (.aload 6, 2) := by decide +kernel
theorem dX7_pass_189 : decode cX7_pass 189 = .ok (.iconst 4, 1) := by decide +kernel
theorem dX7_pass_190 : decode cX7_pass 190 = .ok (.iaload, 1) := by decide +kernel
theorem dX7_pass_191 : decode cX7_pass 191 = .ok (.ifCond .ne 25, 3) := by decide +kernel
theorem dX7_pass_194 : decode cX7_pass 194 = .ok (.bipush 40, 2) := by decide +kernel
theorem dX7_pass_196 : decode cX7_pass 196 = .ok (.aload 6, 2) := by decide +kernel
theorem dX7_pass_198 : decode cX7_pass 198 = .ok (.iconst 3, 1) := by decide +kernel
theorem dX7_pass_199 : decode cX7_pass 199 = .ok (.iaload, 1) := by decide +kernel
theorem dX7_pass_200 : decode cX7_pass 200 = .ok (.imul, 1) := by decide +kernel
theorem dX7_pass_201 : decode cX7_pass 201 = .ok (.bipush 40, 2) := by decide +kernel
theorem dX7_pass_203 : decode cX7_pass 203 = .ok (.iadd, 1) := by decide +kernel
theorem dX7_pass_204 : decode cX7_pass 204 = .ok (.aload_n 0, 1) := by decide +kernel
theorem dX7_pass_205 : decode cX7_pass 205 = .ok (.getfield 40, 3) := by decide +kernel
theorem dX7_pass_208 : decode cX7_pass 208 = .ok (.if_icmp .gt 8, 3) := by decide +kernel
theorem dX7_pass_211 : decode cX7_pass 211 = .ok (.aload 6, 2) := by decide +kernel
theorem dX7_pass_213 : decode cX7_pass 213 = .ok (.iconst 4, 1) := by decide +kernel
theorem dX7_pass_214 : decode cX7_pass 214 = .ok (.iconst 2, 1) := by decide +kernel
theorem dX7_pass_215 : decode cX7_pass 215 = .ok (.iastore, 1) := by decide +kernel
theorem dX7_pass_216 : decode cX7_pass 216 = .ok (.iinc 5 1, 3) := by decide +kernel
theorem dX7_pass_219 : decode cX7_pass 219 = .ok (.goto (-55), 3) := by decide +kernel
theorem dX7_pass_222 : decode cX7_pass 222 = .ok (.return_, 1) := by decide +kernel
theorem dX7_enough_0 : decode cX7_enough 0 = .ok (.iconst 0, 1) := by decide +kernel
theorem dX7_enough_1 : decode cX7_enough 1 = .ok (.istore_n 3, 1) := by decide +kernel
theorem dX7_enough_2 : decode cX7_enough 2 = .ok (.iload_n 2, 1) := by decide +kernel
theorem dX7_enough_3 : decode cX7_enough 3 = .ok (.istore 4, 2) := by decide +kernel
theorem dX7_enough_5 : decode cX7_enough 5 = .ok (.iload 4, 2) := by decide +kernel
theorem dX7_enough_7 : decode cX7_enough 7 = .ok (.bipush 10, 2) := by decide +kernel
theorem dX7_enough_9 : decode cX7_enough 9 = .ok (.if_icmp .ge 21, 3) := by decide +kernel
theorem dX7_enough_12 : decode cX7_enough 12 = .ok (.iload_n 3, 1) := by decide +kernel
theorem dX7_enough_13 : decode cX7_enough 13 = .ok (.aload_n 0, 1) := by decide +kernel
theorem dX7_enough_14 : decode cX7_enough 14 = .ok (.getfield 21, 3) := by decide +kernel
theorem dX7_enough_17 : decode cX7_enough 17 = .ok (.iload_n 1, 1) := by decide +kernel
theorem dX7_enough_18 : decode cX7_enough 18 = .ok (.aaload, 1) := by decide +kernel
theorem dX7_enough_19 : decode cX7_enough 19 = .ok (.iload 4, 2) := by decide +kernel
theorem dX7_enough_21 : decode cX7_enough 21 = .ok (.iaload, 1) := by decide +kernel
theorem dX7_enough_22 : decode cX7_enough 22 = .ok (.iadd, 1) := by decide +kernel
theorem dX7_enough_23 : decode cX7_enough 23 = .ok (.istore_n 3, 1) := by decide +kernel
theorem dX7_enough_24 : decode cX7_enough 24 = .ok (.iinc 4 1, 3) := by decide +kernel
theorem dX7_enough_27 : decode cX7_enough 27 = .ok (.goto (-22), 3) := by decide +kernel
theorem dX7_enough_30 : decode cX7_enough 30 = .ok (.iload_n 3, 1) := by decide +kernel
theorem dX7_enough_31 : decode cX7_enough 31 = .ok (.ireturn, 1) := by decide +kernel
theorem dX7_all_0 : decode cX7_all 0 = .ok (.iconst 0, 1) := by decide +kernel
theorem dX7_all_1 : decode cX7_all 1 = .ok (.istore_n 1, 1) := by decide +kernel
theorem dX7_all_2 : decode cX7_all 2 = .ok (.aload_n 0, 1) := by decide +kernel
theorem dX7_all_3 : decode cX7_all 3 = .ok (.getfield 21, 3) := by decide +kernel
theorem dX7_all_6 : decode cX7_all 6 = .ok (.astore_n 2, 1) := by decide +kernel
theorem dX7_all_7 : decode cX7_all 7 = .ok (.aload_n 2, 1) := by decide +kernel
theorem dX7_all_8 : decode cX7_all 8 = .ok (.arraylength, 1) := by decide +kernel
theorem dX7_all_9 : decode cX7_all 9 = .ok (.istore_n 3, 1) := by decide +kernel
theorem dX7_all_10 : decode cX7_all 10 = .ok (.iconst 0, 1) := by decide +kernel
theorem dX7_all_11 : decode cX7_all 11 = .ok (.istore 4, 2) := by decide +kernel
theorem dX7_all_13 : decode cX7_all 13 = .ok (.iload 4, 2) := by decide +kernel
theorem dX7_all_15 : decode cX7_all 15 = .ok (.iload_n 3, 1) := by decide +kernel
theorem dX7_all_16 : decode cX7_all 16 = .ok (.if_icmp .ge 52, 3) := by decide +kernel
theorem dX7_all_19 : decode cX7_all 19 = .ok (.aload_n 2, 1) := by decide +kernel
theorem dX7_all_20 : decode cX7_all 20 = .ok (.iload 4, 2) := by decide +kernel
theorem dX7_all_22 : decode cX7_all 22 = .ok (.aaload, 1) := by decide +kernel
theorem dX7_all_23 : decode cX7_all 23 = .ok (.astore 5, 2) := by decide +kernel
theorem dX7_all_25 : decode cX7_all 25 = .ok (.aload 5, 2) := by decide +kernel
theorem dX7_all_27 : decode cX7_all 27 = .ok (.astore 6, 2) := by decide +kernel
theorem dX7_all_29 : decode cX7_all 29 = .ok (.aload 6, 2) := by decide +kernel
theorem dX7_all_31 : decode cX7_all 31 = .ok (.arraylength, 1) := by decide +kernel
theorem dX7_all_32 : decode cX7_all 32 = .ok (.istore 7, 2) := by decide +kernel
theorem dX7_all_34 : decode cX7_all 34 = .ok (.iconst 0, 1) := by decide +kernel
theorem dX7_all_35 : decode cX7_all 35 = .ok (.istore 8, 2) := by decide +kernel
theorem dX7_all_37 : decode cX7_all 37 = .ok (.iload 8, 2) := by decide +kernel
theorem dX7_all_39 : decode cX7_all 39 = .ok (.iload 7, 2) := by decide +kernel
theorem dX7_all_41 : decode cX7_all 41 = .ok (.if_icmp .ge 21, 3) := by decide +kernel
theorem dX7_all_44 : decode cX7_all 44 = .ok (.aload 6, 2) := by decide +kernel
theorem dX7_all_46 : decode cX7_all 46 = .ok (.iload 8, 2) := by decide +kernel
theorem dX7_all_48 : decode cX7_all 48 = .ok (.iaload, 1) := by decide +kernel
theorem dX7_all_49 : decode cX7_all 49 = .ok (.istore 9, 2) := by decide +kernel
theorem dX7_all_51 : decode cX7_all 51 = .ok (.iload_n 1, 1) := by decide +kernel
theorem dX7_all_52 : decode cX7_all 52 = .ok (.iload 9, 2) := by decide +kernel
theorem dX7_all_54 : decode cX7_all 54 = .ok (.iadd, 1) := by decide +kernel
theorem dX7_all_55 : decode cX7_all 55 = .ok (.istore_n 1, 1) := by decide +kernel
theorem dX7_all_56 : decode cX7_all 56 = .ok (.iinc 8 1, 3) := by decide +kernel
theorem dX7_all_59 : decode cX7_all 59 = .ok (.goto (-22), 3) := by decide +kernel
theorem dX7_all_62 : decode cX7_all 62 = .ok (.iinc 4 1, 3) := by decide +kernel
theorem dX7_all_65 : decode cX7_all 65 = .ok (.goto (-52), 3) := by decide +kernel
theorem dX7_all_68 : decode cX7_all 68 = .ok (.iload_n 1, 1) := by decide +kernel
theorem dX7_all_69 : decode cX7_all 69 = .ok (.ireturn, 1) := by decide +kernel
theorem dJ9_max_7cf53_0 : decode cJ9_max_7cf53 0 = .ok (.iload_n 0, 1) := by decide +kernel
theorem dJ9_max_7cf53_1 : decode cJ9_max_7cf53 1 = .ok (.iload_n 1, 1) := by decide +kernel
theorem dJ9_max_7cf53_2 : decode cJ9_max_7cf53 2 = .ok (.if_icmp .lt 7, 3) := by decide +kernel
theorem dJ9_max_7cf53_5 : decode cJ9_max_7cf53 5 = .ok (.iload_n 0, 1) := by decide +kernel
theorem dJ9_max_7cf53_6 : decode cJ9_max_7cf53 6 = .ok (.goto 4, 3) := by decide +kernel
theorem dJ9_max_7cf53_9 : decode cJ9_max_7cf53 9 = .ok (.iload_n 1, 1) := by decide +kernel
theorem dJ9_max_7cf53_10 : decode cJ9_max_7cf53 10 = .ok (.ireturn, 1) := by decide +kernel
theorem dJ9_min_7cf53_0 : decode cJ9_min_7cf53 0 = .ok (.iload_n 0, 1) := by decide +kernel
theorem dJ9_min_7cf53_1 : decode cJ9_min_7cf53 1 = .ok (.iload_n 1, 1) := by decide +kernel
theorem dJ9_min_7cf53_2 : decode cJ9_min_7cf53 2 = .ok (.if_icmp .gt 7, 3) := by decide +kernel
theorem dJ9_min_7cf53_5 : decode cJ9_min_7cf53 5 = .ok (.iload_n 0, 1) := by decide +kernel
theorem dJ9_min_7cf53_6 : decode cJ9_min_7cf53 6 = .ok (.goto 4, 3) := by decide +kernel
theorem dJ9_min_7cf53_9 : decode cJ9_min_7cf53 9 = .ok (.iload_n 1, 1) := by decide +kernel
theorem dJ9_min_7cf53_10 : decode cJ9_min_7cf53 10 = .ok (.ireturn, 1) := by decide +kernel
theorem dL_below_0 : decode cL_below 0 = .ok (.iload_n 0, 1) := by decide +kernel
theorem dL_below_1 : decode cL_below 1 = .ok (.ldc 7, 2) := by decide +kernel
theorem dL_below_3 : decode cL_below 3 = .ok (.iand, 1) := by decide +kernel
theorem dL_below_4 : decode cL_below 4 = .ok (.iload_n 1, 1) := by decide +kernel
theorem dL_below_5 : decode cL_below 5 = .ok (.irem, 1) := by decide +kernel
theorem dL_below_6 : decode cL_below 6 = .ok (.ireturn, 1) := by decide +kernel
theorem dL_cell_0 : decode cL_cell 0 = .ok (.iload_n 1, 1) := by decide +kernel
theorem dL_cell_1 : decode cL_cell 1 = .ok (.aload_n 0, 1) := by decide +kernel
theorem dL_cell_2 : decode cL_cell 2 = .ok (.arraylength, 1) := by decide +kernel
theorem dL_cell_3 : decode cL_cell 3 = .ok (.if_icmp .ge 9, 3) := by decide +kernel
theorem dL_cell_6 : decode cL_cell 6 = .ok (.aload_n 0, 1) := by decide +kernel
theorem dL_cell_7 : decode cL_cell 7 = .ok (.iload_n 1, 1) := by decide +kernel
theorem dL_cell_8 : decode cL_cell 8 = .ok (.iaload, 1) := by decide +kernel
theorem dL_cell_9 : decode cL_cell 9 = .ok (.goto 9, 3) := by decide +kernel
theorem dL_cell_12 : decode cL_cell 12 = .ok (.ldc 8, 2) := by decide +kernel
theorem dL_cell_14 : decode cL_cell 14 = .ok (.iload_n 1, 1) := by decide +kernel
theorem dL_cell_15 : decode cL_cell 15 = .ok (.iconst 3, 1) := by decide +kernel
theorem dL_cell_16 : decode cL_cell 16 = .ok (.iadd, 1) := by decide +kernel
theorem dL_cell_17 : decode cL_cell 17 = .ok (.imul, 1) := by decide +kernel
theorem dL_cell_18 : decode cL_cell 18 = .ok (.ireturn, 1) := by decide +kernel
theorem dL_build_0 : decode cL_build 0 = .ok (.new 9, 3) := by decide +kernel
theorem dL_build_3 : decode cL_build 3 = .ok (.dup, 1) := by decide +kernel
theorem dL_build_4 : decode cL_build 4 = .ok (.invokespecial 11, 3) := by decide +kernel
theorem dL_build_7 : decode cL_build 7 = .ok (.astore_n 2, 1) := by decide +kernel
theorem dL_build_8 : decode cL_build 8 = .ok (.iconst 1, 1) := by decide +kernel
theorem dL_build_9 : decode cL_build 9 = .ok (.aload_n 1, 1) := by decide +kernel
theorem dL_build_10 : decode cL_build 10 = .ok (.iconst 0, 1) := by decide +kernel
theorem dL_build_11 : decode cL_build 11 = .ok (.invokestatic 12, 3) := by decide +kernel
theorem dL_build_14 : decode cL_build 14 = .ok (.iconst 4, 1) := by decide +kernel
theorem dL_build_15 : decode cL_build 15 = .ok (.invokestatic 18, 3) := by decide +kernel
theorem dL_build_18 : decode cL_build 18 = .ok (.iadd, 1) := by decide +kernel
theorem dL_build_19 : decode cL_build 19 = .ok (.istore_n 3, 1) := by decide +kernel
theorem dL_build_20 : decode cL_build 20 = .ok (.iconst 0, 1) := by decide +kernel
theorem dL_build_21 : decode cL_build 21 = .ok (.istore 4, 2) := by decide +kernel
theorem dL_build_23 : decode cL_build 23 = .ok (.iload 4, 2) := by decide +kernel
theorem dL_build_25 : decode cL_build 25 = .ok (.iload_n 3, 1) := by decide +kernel
theorem dL_build_26 : decode cL_build 26 = .ok (.if_icmp .ge 102, 3) := by decide +kernel
theorem dL_build_29 : decode cL_build 29 = .ok (.iconst 1, 1) := by decide +kernel
theorem dL_build_30 : decode cL_build 30 = .ok (.aload_n 1, 1) := by decide +kernel
theorem dL_build_31 : decode cL_build 31 = .ok (.iconst 1, 1) := by decide +kernel
theorem dL_build_32 : decode cL_build 32 = .ok (.invokestatic 12, 3) := by decide +kernel
theorem dL_build_35 : decode cL_build 35 = .ok (.iconst 3, 1) := by decide +kernel
theorem dL_build_36 : decode cL_build 36 = .ok (.iload 4, 2) := by decide +kernel
theorem dL_build_38 : decode cL_build 38 = .ok (.imul, 1) := by decide +kernel
theorem dL_build_39 : decode cL_build 39 = .ok (.ishr, 1) := by decide +kernel
theorem dL_build_40 : decode cL_build 40 = .ok (.aload_n 1, 1) := by decide +kernel
theorem dL_build_41 : decode cL_build 41 = .ok (.iconst 0, 1) := by decide +kernel
theorem dL_build_42 : decode cL_build 42 = .ok (.invokestatic 12, 3) := by decide +kernel
theorem dL_build_45 : decode cL_build 45 = .ok (.iconst 5, 1) := by decide +kernel
theorem dL_build_46 : decode cL_build 46 = .ok (.ishr, 1) := by decide +kernel
theorem dL_build_47 : decode cL_build 47 = .ok (.iconst 2, 1) := by decide +kernel
theorem dL_build_48 : decode cL_build 48 = .ok (.invokestatic 18, 3) := by decide +kernel
theorem dL_build_51 : decode cL_build 51 = .ok (.ifCond .ne 9, 3) := by decide +kernel
theorem dL_build_54 : decode cL_build 54 = .ok (.sipush 5000, 3) := by decide +kernel
theorem dL_build_57 : decode cL_build 57 = .ok (.goto 6, 3) := by decide +kernel
theorem dL_build_60 : decode cL_build 60 = .ok (.sipush 300, 3) := by decide +kernel
theorem dL_build_63 : decode cL_build 63 = .ok (.invokestatic 18, 3) := by decide +kernel
theorem dL_build_66 : decode cL_build 66 = .ok (.iadd, 1) := by decide +kernel
theorem dL_build_67 : decode cL_build 67 = .ok (.istore 5, 2) := by decide +kernel
theorem dL_build_69 : decode cL_build 69 = .ok (.aload_n 2, 1) := by decide +kernel
theorem dL_build_70 : decode cL_build 70 = .ok (.aload_n 2, 1) := by decide +kernel
theorem dL_build_71 : decode cL_build 71 = .ok (.getfield 22, 3) := by decide +kernel
theorem dL_build_74 : decode cL_build 74 = .ok (.aload_n 2, 1) := by decide +kernel
theorem dL_build_75 : decode cL_build 75 = .ok (.getfield 26, 3) := by decide +kernel
theorem dL_build_78 : decode cL_build 78 = .ok (.imul, 1) := by decide +kernel
theorem dL_build_79 : decode cL_build 79 = .ok (.bipush 20, 2) := by decide +kernel
theorem dL_build_81 : decode cL_build 81 = .ok (.iload 5, 2) := by decide +kernel
theorem dL_build_83 : decode cL_build 83 = .ok (.imul, 1) := by decide +kernel
theorem dL_build_84 : decode cL_build 84 = .ok (.iadd, 1) := by decide +kernel
theorem dL_build_85 : decode cL_build 85 = .ok (.aload_n 2, 1) := by decide +kernel
theorem dL_build_86 : decode cL_build 86 = .ok (.getfield 26, 3) := by decide +kernel
theorem dL_build_89 : decode cL_build 89 = .ok (.iload 5, 2) := by decide +kernel
theorem dL_build_91 : decode cL_build 91 = .ok (.iadd, 1) := by decide +kernel
theorem dL_build_92 : decode cL_build 92 = .ok (.idiv, 1) := by decide +kernel
theorem dL_build_93 : decode cL_build 93 = .ok (.putfield 22, 3) := by decide +kernel
theorem dL_build_96 : decode cL_build 96 = .ok (.aload_n 2, 1) := by decide +kernel
theorem dL_build_97 : decode cL_build 97 = .ok (.dup, 1) := by decide +kernel
theorem dL_build_98 : decode cL_build 98 = .ok (.getfield 26, 3) := by decide +kernel
theorem dL_build_101 : decode cL_build 101 = .ok (.iload 5, 2) := by decide +kernel
theorem dL_build_103 : decode cL_build 103 = .ok (.iadd, 1) := by decide +kernel
theorem dL_build_104 : decode cL_build 104 = .ok (.putfield 26, 3) := by decide +kernel
theorem dL_build_107 : decode cL_build 107 = .ok (.aload_n 0, 1) := by decide +kernel
theorem dL_build_108 : decode cL_build 108 = .ok (.iload 5, 2) := by decide +kernel
theorem dL_build_110 : decode cL_build 110 = .ok (.invokevirtual 29, 3) := by decide +kernel
theorem dL_build_113 : decode cL_build 113 = .ok (.aload_n 2, 1) := by decide +kernel
theorem dL_build_114 : decode cL_build 114 = .ok (.getfield 22, 3) := by decide +kernel
theorem dL_build_117 : decode cL_build 117 = .ok (.if_icmp .eq 5, 3) := by decide +kernel
theorem dL_build_120 : decode cL_build 120 = .ok (.aconst_null, 1) := by decide +kernel
theorem dL_build_121 : decode cL_build 121 = .ok (.areturn, 1) := by decide +kernel
theorem dL_build_122 : decode cL_build 122 = .ok (.iinc 4 1, 3) := by decide +kernel
theorem dL_build_125 : decode cL_build 125 = .ok (.goto (-102), 3) := by decide +kernel
theorem dL_build_128 : decode cL_build 128 = .ok (.aload_n 2, 1) := by decide +kernel
theorem dL_build_129 : decode cL_build 129 = .ok (.iconst 1, 1) := by decide +kernel
theorem dL_build_130 : decode cL_build 130 = .ok (.aload_n 1, 1) := by decide +kernel
theorem dL_build_131 : decode cL_build 131 = .ok (.iconst 2, 1) := by decide +kernel
theorem dL_build_132 : decode cL_build 132 = .ok (.invokestatic 12, 3) := by decide +kernel
theorem dL_build_135 : decode cL_build 135 = .ok (.iconst 5, 1) := by decide +kernel
theorem dL_build_136 : decode cL_build 136 = .ok (.invokestatic 18, 3) := by decide +kernel
theorem dL_build_139 : decode cL_build 139 = .ok (.iadd, 1) := by decide +kernel
theorem dL_build_140 : decode cL_build 140 = .ok (.putfield 35, 3) := by decide +kernel
theorem dL_build_143 : decode cL_build 143 = .ok (.aload_n 0, 1) := by decide +kernel
theorem dL_build_144 : decode cL_build 144 = .ok (.aload_n 2, 1) := by decide +kernel
theorem dL_build_145 : decode cL_build 145 = .ok (.getfield 35, 3) := by decide +kernel
theorem dL_build_148 : decode cL_build 148 = .ok (.invokevirtual 38, 3) := by decide +kernel
theorem dL_build_151 : decode cL_build 151 = .ok (.ifCond .eq 5, 3) := by decide +kernel
theorem dL_build_154 : decode cL_build 154 = .ok (.aconst_null, 1) := by decide +kernel
theorem dL_build_155 : decode cL_build 155 = .ok (.areturn, 1) := by decide +kernel
theorem dL_build_156 : decode cL_build 156 = .ok (.iconst 1, 1) := by decide +kernel
theorem dL_build_157 : decode cL_build 157 = .ok (.aload_n 1, 1) := by decide +kernel
theorem dL_build_158 : decode cL_build 158 = .ok (.iconst 3, 1) := by decide +kernel
theorem dL_build_159 : decode cL_build 159 = .ok (.invokestatic 12, 3) := by decide +kernel
theorem dL_build_162 : decode cL_build 162 = .ok (.bipush 7, 2) := by decide +kernel
theorem dL_build_164 : decode cL_build 164 = .ok (.invokestatic 18, 3) := by decide +kernel
theorem dL_build_167 : decode cL_build 167 = .ok (.iadd, 1) := by decide +kernel
theorem dL_build_168 : decode cL_build 168 = .ok (.istore 4, 2) := by decide +kernel
theorem dL_build_170 : decode cL_build 170 = .ok (.iconst 0, 1) := by decide +kernel
theorem dL_build_171 : decode cL_build 171 = .ok (.istore 5, 2) := by decide +kernel
theorem dL_build_173 : decode cL_build 173 = .ok (.iload 5, 2) := by decide +kernel
theorem dL_build_175 : decode cL_build 175 = .ok (.iload 4, 2) := by decide +kernel
theorem dL_build_177 : decode cL_build 177 = .ok (.if_icmp .ge 122, 3) := by decide +kernel
theorem dL_build_180 : decode cL_build 180 = .ok (.aload_n 1, 1) := by decide +kernel
theorem dL_build_181 : decode cL_build 181 = .ok (.iconst 4, 1) := by decide +kernel
theorem dL_build_182 : decode cL_build 182 = .ok (.iload 5, 2) := by decide +kernel
theorem dL_build_184 : decode cL_build 184 = .ok (.iconst 2, 1) := by decide +kernel
theorem dL_build_185 : decode cL_build 185 = .ok (.irem, 1) := by decide +kernel
theorem dL_build_186 : decode cL_build 186 = .ok (.iadd, 1) := by decide +kernel
theorem dL_build_187 : decode cL_build 187 = .ok (.invokestatic 12, 3) := by decide +kernel
theorem dL_build_190 : decode cL_build 190 = .ok (.iload 5, 2) := by decide +kernel
theorem dL_build_192 : decode cL_build 192 = .ok (.ishr, 1) := by decide +kernel
theorem dL_build_193 : decode cL_build 193 = .ok (.iconst 5, 1) := by decide +kernel
theorem dL_build_194 : decode cL_build 194 = .ok (.iload 5, 2) := by decide +kernel
theorem dL_build_196 : decode cL_build 196 = .ok (.imul, 1) := by decide +kernel
theorem dL_build_197 : decode cL_build 197 = .ok (.iadd, 1) := by decide +kernel
theorem dL_build_198 : decode cL_build 198 = .ok (.istore 6, 2) := by decide +kernel
theorem dL_build_200 : decode cL_build 200 = .ok (.iload 6, 2) := by decide +kernel
theorem dL_build_202 : decode cL_build 202 = .ok (.iconst 4, 1) := by decide +kernel
theorem dL_build_203 : decode cL_build 203 = .ok (.invokestatic 18, 3) := by decide +kernel
theorem dL_build_206 : decode cL_build 206 = .ok (.istore 7, 2) := by decide +kernel
theorem dL_build_208 : decode cL_build 208 = .ok (.iconst 1, 1) := by decide +kernel
theorem dL_build_209 : decode cL_build 209 = .ok (.iload 6, 2) := by decide +kernel
theorem dL_build_211 : decode cL_build 211 = .ok (.iconst 2, 1) := by decide +kernel
theorem dL_build_212 : decode cL_build 212 = .ok (.ishr, 1) := by decide +kernel
theorem dL_build_213 : decode cL_build 213 = .ok (.bipush 20, 2) := by decide +kernel
theorem dL_build_215 : decode cL_build 215 = .ok (.invokestatic 18, 3) := by decide +kernel
theorem dL_build_218 : decode cL_build 218 = .ok (.iadd, 1) := by decide +kernel
theorem dL_build_219 : decode cL_build 219 = .ok (.istore 8, 2) := by decide +kernel
theorem dL_build_221 : decode cL_build 221 = .ok (.aload_n 0, 1) := by decide +kernel
theorem dL_build_222 : decode cL_build 222 = .ok (.iload 7, 2) := by decide +kernel
theorem dL_build_224 : decode cL_build 224 = .ok (.iload 8, 2) := by decide +kernel
theorem dL_build_226 : decode cL_build 226 = .ok (.invokevirtual 41, 3) := by decide +kernel
theorem dL_build_229 : decode cL_build 229 = .ok (.iload 5, 2) := by decide +kernel
theorem dL_build_231 : decode cL_build 231 = .ok (.if_icmp .eq 5, 3) := by decide +kernel
theorem dL_build_234 : decode cL_build 234 = .ok (.aconst_null, 1) := by decide +kernel
theorem dL_build_235 : decode cL_build 235 = .ok (.areturn, 1) := by decide +kernel
theorem dL_build_236 : decode cL_build 236 = .ok (.aload_n 2, 1) := by decide +kernel
theorem dL_build_237 : decode cL_build 237 = .ok (.iload 7, 2) := by decide +kernel
theorem dL_build_239 : decode cL_build 239 = .ok (.iload 8, 2) := by decide +kernel
theorem dL_build_241 : decode cL_build 241 = .ok (.invokevirtual 44, 3) := by decide +kernel
theorem dL_build_244 : decode cL_build 244 = .ok (.iload 6, 2) := by decide +kernel
theorem dL_build_246 : decode cL_build 246 = .ok (.iconst 4, 1) := by decide +kernel
theorem dL_build_247 : decode cL_build 247 = .ok (.ishr, 1) := by decide +kernel
theorem dL_build_248 : decode cL_build 248 = .ok (.bipush 12, 2) := by decide +kernel
theorem dL_build_250 : decode cL_build 250 = .ok (.invokestatic 18, 3) := by decide +kernel
theorem dL_build_253 : decode cL_build 253 = .ok (.istore 9, 2) := by decide +kernel
theorem dL_build_255 : decode cL_build 255 = .ok (.aload_n 2, 1) := by decide +kernel
theorem dL_build_256 : decode cL_build 256 = .ok (.iload 9, 2) := by decide +kernel
theorem dL_build_258 : decode cL_build 258 = .ok (.invokevirtual 48, 3) := by decide +kernel
theorem dL_build_261 : decode cL_build 261 = .ok (.ifCond .lt 6, 3) := by decide +kernel
theorem dL_build_264 : decode cL_build 264 = .ok (.goto 29, 3) := by decide +kernel
theorem dL_build_267 : decode cL_build 267 = .ok (.aload_n 2, 1) := by decide +kernel
theorem dL_build_268 : decode cL_build 268 = .ok (.getfield 51, 3) := by decide +kernel
theorem dL_build_271 : decode cL_build 271 = .ok (.iload 5, 2) := by decide +kernel
theorem dL_build_273 : decode cL_build 273 = .ok (.aaload, 1) := by decide +kernel
theorem dL_build_274 : decode cL_build 274 = .ok (.iload 9, 2) := by decide +kernel
theorem dL_build_276 : decode cL_build 276 = .ok (.putfield 55, 3) := by decide +kernel
theorem dL_build_279 : decode cL_build 279 = .ok (.aload_n 0, 1) := by decide +kernel
theorem dL_build_280 : decode cL_build 280 = .ok (.iload 5, 2) := by decide +kernel
theorem dL_build_282 : decode cL_build 282 = .ok (.iload 9, 2) := by decide +kernel
theorem dL_build_284 : decode cL_build 284 = .ok (.invokevirtual 60, 3) := by decide +kernel
theorem dL_build_287 : decode cL_build 287 = .ok (.iconst (-1), 1) := by decide +kernel
theorem dL_build_288 : decode cL_build 288 = .ok (.if_icmp .eq 5, 3) := by decide +kernel
theorem dL_build_291 : decode cL_build 291 = .ok (.aconst_null, 1) := by decide +kernel
theorem dL_build_292 : decode cL_build 292 = .ok (.areturn, 1) := by decide +kernel
theorem dL_build_293 : decode cL_build 293 = .ok (.iinc 5 1, 3) := by decide +kernel
theorem dL_build_296 : decode cL_build 296 = .ok (.goto (-123), 3) := by decide +kernel
theorem dL_build_299 : decode cL_build 299 = .ok (.iconst 5, 1) := by decide +kernel
theorem dL_build_300 : decode cL_build 300 = .ok (.aload_n 1, 1) := by decide +kernel
theorem dL_build_301 : decode cL_build 301 = .ok (.bipush 6, 2) := by decide +kernel
theorem dL_build_303 : decode cL_build 303 = .ok (.invokestatic 12, 3) := by decide +kernel
theorem dL_build_306 : decode cL_build 306 = .ok (.bipush 30, 2) := by decide +kernel
theorem dL_build_308 : decode cL_build 308 = .ok (.invokestatic 18, 3) := by decide +kernel
theorem dL_build_311 : decode cL_build 311 = .ok (.iadd, 1) := by decide +kernel
theorem dL_build_312 : decode cL_build 312 = .ok (.istore 5, 2) := by decide +kernel
theorem dL_build_314 : decode cL_build 314 = .ok (.iconst 0, 1) := by decide +kernel
theorem dL_build_315 : decode cL_build 315 = .ok (.istore 6, 2) := by decide +kernel
theorem dL_build_317 : decode cL_build 317 = .ok (.iload 6, 2) := by decide +kernel
theorem dL_build_319 : decode cL_build 319 = .ok (.iload 5, 2) := by decide +kernel
theorem dL_build_321 : decode cL_build 321 = .ok (.if_icmp .ge 14, 3) := by decide +kernel
theorem dL_build_324 : decode cL_build 324 = .ok (.aload_n 2, 1) := by decide +kernel
theorem dL_build_325 : decode cL_build 325 = .ok (.aconst_null, 1) := by decide +kernel
theorem dL_build_326 : decode cL_build 326 = .ok (.invokevirtual 63, 3) := by decide +kernel
theorem dL_build_329 : decode cL_build 329 = .ok (.iinc 6 1, 3) := by decide +kernel
theorem dL_build_332 : decode cL_build 332 = .ok (.goto (-15), 3) := by decide +kernel
theorem dL_build_335 : decode cL_build 335 = .ok (.aload_n 0, 1) := by decide +kernel
theorem dL_build_336 : decode cL_build 336 = .ok (.iload 5, 2) := by decide +kernel
theorem dL_build_338 : decode cL_build 338 = .ok (.invokevirtual 67, 3) := by decide +kernel
theorem dL_build_341 : decode cL_build 341 = .ok (.aload_n 2, 1) := by decide +kernel
theorem dL_build_342 : decode cL_build 342 = .ok (.getfield 22, 3) := by decide +kernel
theorem dL_build_345 : decode cL_build 345 = .ok (.if_icmp .ne 7, 3) := by decide +kernel
theorem dL_build_348 : decode cL_build 348 = .ok (.aload_n 2, 1) := by decide +kernel
theorem dL_build_349 : decode cL_build 349 = .ok (.goto 4, 3) := by decide +kernel
theorem dL_build_352 : decode cL_build 352 = .ok (.aconst_null, 1) := by decide +kernel
theorem dL_build_353 : decode cL_build 353 = .ok (.areturn, 1) := by decide +kernel
theorem dL_act_0 : decode cL_act 0 = .ok (.iload_n 2, 1) := by decide +kernel
theorem dL_act_1 : decode cL_act 1 = .ok (.aload_n 1, 1) := by decide +kernel
theorem dL_act_2 : decode cL_act 2 = .ok (.getfield 51, 3) := by decide +kernel
theorem dL_act_5 : decode cL_act 5 = .ok (.arraylength, 1) := by decide +kernel
theorem dL_act_6 : decode cL_act 6 = .ok (.invokestatic 18, 3) := by decide +kernel
theorem dL_act_9 : decode cL_act 9 = .ok (.istore_n 3, 1) := by decide +kernel
theorem dL_act_10 : decode cL_act 10 = .ok (.aload_n 1, 1) := by decide +kernel
theorem dL_act_11 : decode cL_act 11 = .ok (.getfield 51, 3) := by decide +kernel
theorem dL_act_14 : decode cL_act 14 = .ok (.iload_n 3, 1) := by decide +kernel
theorem dL_act_15 : decode cL_act 15 = .ok (.aaload, 1) := by decide +kernel
theorem dL_act_16 : decode cL_act 16 = .ok (.astore 4, 2) := by decide +kernel
theorem dL_act_18 : decode cL_act 18 = .ok (.iload_n 2, 1) := by decide +kernel
theorem dL_act_19 : decode cL_act 19 = .ok (.bipush 7, 2) := by decide +kernel
theorem dL_act_21 : decode cL_act 21 = .ok (.ishr, 1) := by decide +kernel
theorem dL_act_22 : decode cL_act 22 = .ok (.bipush 9, 2) := by decide +kernel
theorem dL_act_24 : decode cL_act 24 = .ok (.invokestatic 18, 3) := by decide +kernel
theorem dL_act_27 : decode cL_act 27 = .ok (.tableswitch 593 0 5 #[37, 100, 149, 297, 334, 441], 37) := by decide +kernel
theorem dL_act_64 : decode cL_act 64 = .ok (.iload_n 2, 1) := by decide +kernel
theorem dL_act_65 : decode cL_act 65 = .ok (.iconst 3, 1) := by decide +kernel
theorem dL_act_66 : decode cL_act 66 = .ok (.ishr, 1) := by decide +kernel
theorem dL_act_67 : decode cL_act 67 = .ok (.bipush 12, 2) := by decide +kernel
theorem dL_act_69 : decode cL_act 69 = .ok (.invokestatic 18, 3) := by decide +kernel
theorem dL_act_72 : decode cL_act 72 = .ok (.istore 5, 2) := by decide +kernel
theorem dL_act_74 : decode cL_act 74 = .ok (.aload_n 1, 1) := by decide +kernel
theorem dL_act_75 : decode cL_act 75 = .ok (.iload 5, 2) := by decide +kernel
theorem dL_act_77 : decode cL_act 77 = .ok (.invokevirtual 48, 3) := by decide +kernel
theorem dL_act_80 : decode cL_act 80 = .ok (.ifCond .lt 15, 3) := by decide +kernel
theorem dL_act_83 : decode cL_act 83 = .ok (.aload_n 1, 1) := by decide +kernel
theorem dL_act_84 : decode cL_act 84 = .ok (.iload 5, 2) := by decide +kernel
theorem dL_act_86 : decode cL_act 86 = .ok (.invokevirtual 48, 3) := by decide +kernel
theorem dL_act_89 : decode cL_act 89 = .ok (.iload_n 3, 1) := by decide +kernel
theorem dL_act_90 : decode cL_act 90 = .ok (.if_icmp .eq 5, 3) := by decide +kernel
theorem dL_act_93 : decode cL_act 93 = .ok (.iconst 1, 1) := by decide +kernel
theorem dL_act_94 : decode cL_act 94 = .ok (.ireturn, 1) := by decide +kernel
theorem dL_act_95 : decode cL_act 95 = .ok (.aload 4, 2) := by decide +kernel
theorem dL_act_97 : decode cL_act 97 = .ok (.getfield 55, 3) := by decide +kernel
theorem dL_act_100 : decode cL_act 100 = .ok (.istore 6, 2) := by decide +kernel
theorem dL_act_102 : decode cL_act 102 = .ok (.aload 4, 2) := by decide +kernel
theorem dL_act_104 : decode cL_act 104 = .ok (.iload 5, 2) := by decide +kernel
theorem dL_act_106 : decode cL_act 106 = .ok (.putfield 55, 3) := by decide +kernel
theorem dL_act_109 : decode cL_act 109 = .ok (.aload_n 0, 1) := by decide +kernel
theorem dL_act_110 : decode cL_act 110 = .ok (.iload_n 3, 1) := by decide +kernel
theorem dL_act_111 : decode cL_act 111 = .ok (.iload 5, 2) := by decide +kernel
theorem dL_act_113 : decode cL_act 113 = .ok (.invokevirtual 60, 3) := by decide +kernel
theorem dL_act_116 : decode cL_act 116 = .ok (.iload 6, 2) := by decide +kernel
theorem dL_act_118 : decode cL_act 118 = .ok (.if_icmp .ne 7, 3) := by decide +kernel
theorem dL_act_121 : decode cL_act 121 = .ok (.iconst 1, 1) := by decide +kernel
theorem dL_act_122 : decode cL_act 122 = .ok (.goto 4, 3) := by decide +kernel
theorem dL_act_125 : decode cL_act 125 = .ok (.iconst 0, 1) := by decide +kernel
theorem dL_act_126 : decode cL_act 126 = .ok (.ireturn, 1) := by decide +kernel
theorem dL_act_127 : decode cL_act 127 = .ok (.aload 4, 2) := by decide +kernel
theorem dL_act_129 : decode cL_act 129 = .ok (.getfield 55, 3) := by decide +kernel
theorem dL_act_132 : decode cL_act 132 = .ok (.ifCond .lt 13, 3) := by decide +kernel
theorem dL_act_135 : decode cL_act 135 = .ok (.iload_n 2, 1) := by decide +kernel
theorem dL_act_136 : decode cL_act 136 = .ok (.iconst 3, 1) := by decide +kernel
theorem dL_act_137 : decode cL_act 137 = .ok (.ishr, 1) := by decide +kernel
theorem dL_act_138 : decode cL_act 138 = .ok (.iconst 3, 1) := by decide +kernel
theorem dL_act_139 : decode cL_act 139 = .ok (.invokestatic 18, 3) := by decide +kernel
theorem dL_act_142 : decode cL_act 142 = .ok (.ifCond .le 5, 3) := by decide +kernel
theorem dL_act_145 : decode cL_act 145 = .ok (.iconst 1, 1) := by decide +kernel
theorem dL_act_146 : decode cL_act 146 = .ok (.ireturn, 1) := by decide +kernel
theorem dL_act_147 : decode cL_act 147 = .ok (.aload 4, 2) := by decide +kernel
theorem dL_act_149 : decode cL_act 149 = .ok (.getfield 55, 3) := by decide +kernel
theorem dL_act_152 : decode cL_act 152 = .ok (.istore 7, 2) := by decide +kernel
theorem dL_act_154 : decode cL_act 154 = .ok (.aload 4, 2) := by decide +kernel
theorem dL_act_156 : decode cL_act 156 = .ok (.iconst (-1), 1) := by decide +kernel
theorem dL_act_157 : decode cL_act 157 = .ok (.putfield 55, 3) := by decide +kernel
theorem dL_act_160 : decode cL_act 160 = .ok (.aload_n 0, 1) := by decide +kernel
theorem dL_act_161 : decode cL_act 161 = .ok (.iload_n 3, 1) := by decide +kernel
theorem dL_act_162 : decode cL_act 162 = .ok (.invokevirtual 69, 3) := by decide +kernel
theorem dL_act_165 : decode cL_act 165 = .ok (.iload 7, 2) := by decide +kernel
theorem dL_act_167 : decode cL_act 167 = .ok (.if_icmp .ne 7, 3) := by decide +kernel
theorem dL_act_170 : decode cL_act 170 = .ok (.iconst 1, 1) := by decide +kernel
theorem dL_act_171 : decode cL_act 171 = .ok (.goto 4, 3) := by decide +kernel
theorem dL_act_174 : decode cL_act 174 = .ok (.iconst 0, 1) := by decide +kernel
theorem dL_act_175 : decode cL_act 175 = .ok (.ireturn, 1) := by decide +kernel
theorem dL_act_176 : decode cL_act 176 = .ok (.aload 4, 2) := by decide +kernel
theorem dL_act_178 : decode cL_act 178 = .ok (.getfield 72, 3) := by decide +kernel
theorem dL_act_181 : decode cL_act 181 = .ok (.ifCond .eq 13, 3) := by decide +kernel
theorem dL_act_184 : decode cL_act 184 = .ok (.aload 4, 2) := by decide +kernel
theorem dL_act_186 : decode cL_act 186 = .ok (.getfield 75, 3) := by decide +kernel
theorem dL_act_189 : decode cL_act 189 = .ok (.bipush 20, 2) := by decide +kernel
theorem dL_act_191 : decode cL_act 191 = .ok (.if_icmp .le 5, 3) := by decide +kernel
theorem dL_act_194 : decode cL_act 194 = .ok (.iconst 1, 1) := by decide +kernel
theorem dL_act_195 : decode cL_act 195 = .ok (.ireturn, 1) := by decide +kernel
theorem dL_act_196 : decode cL_act 196 = .ok (.aload 4, 2) := by decide +kernel
theorem dL_act_198 : decode cL_act 198 = .ok (.invokevirtual 78, 3) := by decide +kernel
theorem dL_act_201 : decode cL_act 201 = .ok (.istore 8, 2) := by decide +kernel
theorem dL_act_203 : decode cL_act 203 = .ok (.iload 8, 2) := by decide +kernel
theorem dL_act_205 : decode cL_act 205 = .ok (.ifCond .le 27, 3) := by decide +kernel
theorem dL_act_208 : decode cL_act 208 = .ok (.aload_n 1, 1) := by decide +kernel
theorem dL_act_209 : decode cL_act 209 = .ok (.getfield 82, 3) := by decide +kernel
theorem dL_act_212 : decode cL_act 212 = .ok (.aload 4, 2) := by decide +kernel
theorem dL_act_214 : decode cL_act 214 = .ok (.getfield 86, 3) := by decide +kernel
theorem dL_act_217 : decode cL_act 217 = .ok (.aaload, 1) := by decide +kernel
theorem dL_act_218 : decode cL_act 218 = .ok (.iload 8, 2) := by decide +kernel
theorem dL_act_220 : decode cL_act 220 = .ok (.dup2, 1) := by decide +kernel
theorem dL_act_221 : decode cL_act 221 = .ok (.iaload, 1) := by decide +kernel
theorem dL_act_222 : decode cL_act 222 = .ok (.aload 4, 2) := by decide +kernel
theorem dL_act_224 : decode cL_act 224 = .ok (.getfield 89, 3) := by decide +kernel
theorem dL_act_227 : decode cL_act 227 = .ok (.iadd, 1) := by decide +kernel
theorem dL_act_228 : decode cL_act 228 = .ok (.iastore, 1) := by decide +kernel
theorem dL_act_229 : decode cL_act 229 = .ok (.goto 55, 3) := by decide +kernel
theorem dL_act_232 : decode cL_act 232 = .ok (.aload_n 1, 1) := by decide +kernel
theorem dL_act_233 : decode cL_act 233 = .ok (.sipush 20000, 3) := by decide +kernel
theorem dL_act_236 : decode cL_act 236 = .ok (.aload_n 1, 1) := by decide +kernel
theorem dL_act_237 : decode cL_act 237 = .ok (.getfield 26, 3) := by decide +kernel
theorem dL_act_240 : decode cL_act 240 = .ok (.aload 4, 2) := by decide +kernel
theorem dL_act_242 : decode cL_act 242 = .ok (.getfield 72, 3) := by decide +kernel
theorem dL_act_245 : decode cL_act 245 = .ok (.bipush 8, 2) := by decide +kernel
theorem dL_act_247 : decode cL_act 247 = .ok (.aload 4, 2) := by decide +kernel
theorem dL_act_249 : decode cL_act 249 = .ok (.getfield 86, 3) := by decide +kernel
theorem dL_act_252 : decode cL_act 252 = .ok (.iadd, 1) := by decide +kernel
theorem dL_act_253 : decode cL_act 253 = .ok (.imul, 1) := by decide +kernel
theorem dL_act_254 : decode cL_act 254 = .ok (.aload 4, 2) := by decide +kernel
theorem dL_act_256 : decode cL_act 256 = .ok (.getfield 89, 3) := by decide +kernel
theorem dL_act_259 : decode cL_act 259 = .ok (.imul, 1) := by decide +kernel
theorem dL_act_260 : decode cL_act 260 = .ok (.bipush 10, 2) := by decide +kernel
theorem dL_act_262 : decode cL_act 262 = .ok (.idiv, 1) := by decide +kernel
theorem dL_act_263 : decode cL_act 263 = .ok (.iadd, 1) := by decide +kernel
theorem dL_act_264 : decode cL_act 264 = .ok (.invokestatic 92, 3) := by decide +kernel
theorem dL_act_267 : decode cL_act 267 = .ok (.putfield 26, 3) := by decide +kernel
theorem dL_act_270 : decode cL_act 270 = .ok (.aload_n 1, 1) := by decide +kernel
theorem dL_act_271 : decode cL_act 271 = .ok (.dup, 1) := by decide +kernel
theorem dL_act_272 : decode cL_act 272 = .ok (.getfield 97, 3) := by decide +kernel
theorem dL_act_275 : decode cL_act 275 = .ok (.aload 4, 2) := by decide +kernel
theorem dL_act_277 : decode cL_act 277 = .ok (.getfield 89, 3) := by decide +kernel
theorem dL_act_280 : decode cL_act 280 = .ok (.iadd, 1) := by decide +kernel
theorem dL_act_281 : decode cL_act 281 = .ok (.putfield 97, 3) := by decide +kernel
theorem dL_act_284 : decode cL_act 284 = .ok (.aload 4, 2) := by decide +kernel
theorem dL_act_286 : decode cL_act 286 = .ok (.iconst 0, 1) := by decide +kernel
theorem dL_act_287 : decode cL_act 287 = .ok (.putfield 72, 3) := by decide +kernel
theorem dL_act_290 : decode cL_act 290 = .ok (.aload 4, 2) := by decide +kernel
theorem dL_act_292 : decode cL_act 292 = .ok (.iconst 0, 1) := by decide +kernel
theorem dL_act_293 : decode cL_act 293 = .ok (.putfield 75, 3) := by decide +kernel
theorem dL_act_296 : decode cL_act 296 = .ok (.aload 4, 2) := by decide +kernel
theorem dL_act_298 : decode cL_act 298 = .ok (.iconst 0, 1) := by decide +kernel
theorem dL_act_299 : decode cL_act 299 = .ok (.putfield 100, 3) := by decide +kernel
theorem dL_act_302 : decode cL_act 302 = .ok (.aload 4, 2) := by decide +kernel
theorem dL_act_304 : decode cL_act 304 = .ok (.iconst 0, 1) := by decide +kernel
theorem dL_act_305 : decode cL_act 305 = .ok (.putfield 103, 3) := by decide +kernel
theorem dL_act_308 : decode cL_act 308 = .ok (.aload_n 0, 1) := by decide +kernel
theorem dL_act_309 : decode cL_act 309 = .ok (.iload_n 3, 1) := by decide +kernel
theorem dL_act_310 : decode cL_act 310 = .ok (.invokevirtual 107, 3) := by decide +kernel
theorem dL_act_313 : decode cL_act 313 = .ok (.iload 8, 2) := by decide +kernel
theorem dL_act_315 : decode cL_act 315 = .ok (.if_icmp .ne 7, 3) := by decide +kernel
theorem dL_act_318 : decode cL_act 318 = .ok (.iconst 1, 1) := by decide +kernel
theorem dL_act_319 : decode cL_act 319 = .ok (.goto 4, 3) := by decide +kernel
theorem dL_act_322 : decode cL_act 322 = .ok (.iconst 0, 1) := by decide +kernel
theorem dL_act_323 : decode cL_act 323 = .ok (.ireturn, 1) := by decide +kernel
theorem dL_act_324 : decode cL_act 324 = .ok (.aload_n 1, 1) := by decide +kernel
theorem dL_act_325 : decode cL_act 325 = .ok (.getfield 35, 3) := by decide +kernel
theorem dL_act_328 : decode cL_act 328 = .ok (.istore 9, 2) := by decide +kernel
theorem dL_act_330 : decode cL_act 330 = .ok (.aload_n 1, 1) := by decide +kernel
theorem dL_act_331 : decode cL_act 331 = .ok (.iload_n 2, 1) := by decide +kernel
theorem dL_act_332 : decode cL_act 332 = .ok (.iconst 3, 1) := by decide +kernel
theorem dL_act_333 : decode cL_act 333 = .ok (.ishr, 1) := by decide +kernel
theorem dL_act_334 : decode cL_act 334 = .ok (.bipush 6, 2) := by decide +kernel
theorem dL_act_336 : decode cL_act 336 = .ok (.invokestatic 18, 3) := by decide +kernel
theorem dL_act_339 : decode cL_act 339 = .ok (.putfield 35, 3) := by decide +kernel
theorem dL_act_342 : decode cL_act 342 = .ok (.aload_n 0, 1) := by decide +kernel
theorem dL_act_343 : decode cL_act 343 = .ok (.aload_n 1, 1) := by decide +kernel
theorem dL_act_344 : decode cL_act 344 = .ok (.getfield 35, 3) := by decide +kernel
theorem dL_act_347 : decode cL_act 347 = .ok (.invokevirtual 38, 3) := by decide +kernel
theorem dL_act_350 : decode cL_act 350 = .ok (.iload 9, 2) := by decide +kernel
theorem dL_act_352 : decode cL_act 352 = .ok (.if_icmp .ne 7, 3) := by decide +kernel
theorem dL_act_355 : decode cL_act 355 = .ok (.iconst 1, 1) := by decide +kernel
theorem dL_act_356 : decode cL_act 356 = .ok (.goto 4, 3) := by decide +kernel
theorem dL_act_359 : decode cL_act 359 = .ok (.iconst 0, 1) := by decide +kernel
theorem dL_act_360 : decode cL_act 360 = .ok (.ireturn, 1) := by decide +kernel
theorem dL_act_361 : decode cL_act 361 = .ok (.aload_n 1, 1) := by decide +kernel
theorem dL_act_362 : decode cL_act 362 = .ok (.getfield 110, 3) := by decide +kernel
theorem dL_act_365 : decode cL_act 365 = .ok (.arraylength, 1) := by decide +kernel
theorem dL_act_366 : decode cL_act 366 = .ok (.bipush 20, 2) := by decide +kernel
theorem dL_act_368 : decode cL_act 368 = .ok (.if_icmp .ne 5, 3) := by decide +kernel
theorem dL_act_371 : decode cL_act 371 = .ok (.iconst 1, 1) := by decide +kernel
theorem dL_act_372 : decode cL_act 372 = .ok (.ireturn, 1) := by decide +kernel
theorem dL_act_373 : decode cL_act 373 = .ok (.aload_n 1, 1) := by decide +kernel
theorem dL_act_374 : decode cL_act 374 = .ok (.getfield 113, 3) := by decide +kernel
theorem dL_act_377 : decode cL_act 377 = .ok (.bipush 40, 2) := by decide +kernel
theorem dL_act_379 : decode cL_act 379 = .ok (.idiv, 1) := by decide +kernel
theorem dL_act_380 : decode cL_act 380 = .ok (.iload_n 2, 1) := by decide +kernel
theorem dL_act_381 : decode cL_act 381 = .ok (.iconst 5, 1) := by decide +kernel
theorem dL_act_382 : decode cL_act 382 = .ok (.ishr, 1) := by decide +kernel
theorem dL_act_383 : decode cL_act 383 = .ok (.iconst 4, 1) := by decide +kernel
theorem dL_act_384 : decode cL_act 384 = .ok (.invokestatic 18, 3) := by decide +kernel
theorem dL_act_387 : decode cL_act 387 = .ok (.iadd, 1) := by decide +kernel
theorem dL_act_388 : decode cL_act 388 = .ok (.istore 10, 2) := by decide +kernel
theorem dL_act_390 : decode cL_act 390 = .ok (.aload_n 1, 1) := by decide +kernel
theorem dL_act_391 : decode cL_act 391 = .ok (.aload 4, 2) := by decide +kernel
theorem dL_act_393 : decode cL_act 393 = .ok (.getfield 86, 3) := by decide +kernel
theorem dL_act_396 : decode cL_act 396 = .ok (.iconst 1, 1) := by decide +kernel
theorem dL_act_397 : decode cL_act 397 = .ok (.iload_n 2, 1) := by decide +kernel
theorem dL_act_398 : decode cL_act 398 = .ok (.iconst 3, 1) := by decide +kernel
theorem dL_act_399 : decode cL_act 399 = .ok (.ishr, 1) := by decide +kernel
theorem dL_act_400 : decode cL_act 400 = .ok (.iconst 4, 1) := by decide +kernel
theorem dL_act_401 : decode cL_act 401 = .ok (.invokestatic 18, 3) := by decide +kernel
theorem dL_act_404 : decode cL_act 404 = .ok (.iadd, 1) := by decide +kernel
theorem dL_act_405 : decode cL_act 405 = .ok (.iconst 1, 1) := by decide +kernel
theorem dL_act_406 : decode cL_act 406 = .ok (.iload_n 2, 1) := by decide +kernel
theorem dL_act_407 : decode cL_act 407 = .ok (.iconst 4, 1) := by decide +kernel
theorem dL_act_408 : decode cL_act 408 = .ok (.ishr, 1) := by decide +kernel
theorem dL_act_409 : decode cL_act 409 = .ok (.bipush 30, 2) := by decide +kernel
theorem dL_act_411 : decode cL_act 411 = .ok (.invokestatic 18, 3) := by decide +kernel
theorem dL_act_414 : decode cL_act 414 = .ok (.iadd, 1) := by decide +kernel
theorem dL_act_415 : decode cL_act 415 = .ok (.iload 10, 2) := by decide +kernel
theorem dL_act_417 : decode cL_act 417 = .ok (.invokevirtual 116, 3) := by decide +kernel
theorem dL_act_420 : decode cL_act 420 = .ok (.aload_n 1, 1) := by decide +kernel
theorem dL_act_421 : decode cL_act 421 = .ok (.getfield 110, 3) := by decide +kernel
theorem dL_act_424 : decode cL_act 424 = .ok (.aload_n 1, 1) := by decide +kernel
theorem dL_act_425 : decode cL_act 425 = .ok (.getfield 110, 3) := by decide +kernel
theorem dL_act_428 : decode cL_act 428 = .ok (.arraylength, 1) := by decide +kernel
theorem dL_act_429 : decode cL_act 429 = .ok (.iconst 1, 1) := by decide +kernel
theorem dL_act_430 : decode cL_act 430 = .ok (.isub, 1) := by decide +kernel
theorem dL_act_431 : decode cL_act 431 = .ok (.aaload, 1) := by decide +kernel
theorem dL_act_432 : decode cL_act 432 = .ok (.astore 11, 2) := by decide +kernel
theorem dL_act_434 : decode cL_act 434 = .ok (.aload_n 0, 1) := by decide +kernel
theorem dL_act_435 : decode cL_act 435 = .ok (.aload 11, 2) := by decide +kernel
theorem dL_act_437 : decode cL_act 437 = .ok (.iconst 0, 1) := by decide +kernel
theorem dL_act_438 : decode cL_act 438 = .ok (.iaload, 1) := by decide +kernel
theorem dL_act_439 : decode cL_act 439 = .ok (.aload 11, 2) := by decide +kernel
theorem dL_act_441 : decode cL_act 441 = .ok (.iconst 1, 1) := by decide +kernel
theorem dL_act_442 : decode cL_act 442 = .ok (.iaload, 1) := by decide +kernel
theorem dL_act_443 : decode cL_act 443 = .ok (.aload 11, 2) := by decide +kernel
theorem dL_act_445 : decode cL_act 445 = .ok (.iconst 2, 1) := by decide +kernel
theorem dL_act_446 : decode cL_act 446 = .ok (.iaload, 1) := by decide +kernel
theorem dL_act_447 : decode cL_act 447 = .ok (.iload 10, 2) := by decide +kernel
