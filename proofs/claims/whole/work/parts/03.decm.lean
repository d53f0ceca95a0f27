theorem dX12_init_0 : decode cX12_init 0 = .ok (.aload_n 0, 1) := by decide +kernel
theorem dX12_init_1 : decode cX12_init 1 = .ok (.invokespecial 3, 3) := by decide +kernel
theorem dX12_init_4 : decode cX12_init 4 = .ok (.aload_n 0, 1) := by decide +kernel
theorem dX12_init_5 : decode cX12_init 5 = .ok (.sipush 313, 3) := by decide +kernel
theorem dX12_init_8 : decode cX12_init 8 = .ok (.newarray .int, 2) := by decide +kernel
theorem dX12_init_10 : decode cX12_init 10 = .ok (.putfield 9, 3) := by decide +kernel
theorem dX12_init_13 : decode cX12_init 13 = .ok (.aload_n 0, 1) := by decide +kernel
theorem dX12_init_14 : decode cX12_init 14 = .ok (.sipush 313, 3) := by decide +kernel
theorem dX12_init_17 : decode cX12_init 17 = .ok (.newarray .int, 2) := by decide +kernel
theorem dX12_init_19 : decode cX12_init 19 = .ok (.putfield 13, 3) := by decide +kernel
theorem dX12_init_22 : decode cX12_init 22 = .ok (.aload_n 0, 1) := by decide +kernel
theorem dX12_init_23 : decode cX12_init 23 = .ok (.sipush 2504, 3) := by decide +kernel
theorem dX12_init_26 : decode cX12_init 26 = .ok (.newarray .int, 2) := by decide +kernel
theorem dX12_init_28 : decode cX12_init 28 = .ok (.putfield 16, 3) := by decide +kernel
theorem dX12_init_31 : decode cX12_init 31 = .ok (.aload_n 0, 1) := by decide +kernel
theorem dX12_init_32 : decode cX12_init 32 = .ok (.sipush 313, 3) := by decide +kernel
theorem dX12_init_35 : decode cX12_init 35 = .ok (.newarray .int, 2) := by decide +kernel
theorem dX12_init_37 : decode cX12_init 37 = .ok (.putfield 19, 3) := by decide +kernel
theorem dX12_init_40 : decode cX12_init 40 = .ok (.aload_n 0, 1) := by decide +kernel
theorem dX12_init_41 : decode cX12_init 41 = .ok (.bipush 80, 2) := by decide +kernel
theorem dX12_init_43 : decode cX12_init 43 = .ok (.newarray .char, 2) := by decide +kernel
theorem dX12_init_45 : decode cX12_init 45 = .ok (.putfield 22, 3) := by decide +kernel
theorem dX12_init_48 : decode cX12_init 48 = .ok (.aload_n 0, 1) := by decide +kernel
theorem dX12_init_49 : decode cX12_init 49 = .ok (.iconst (-1), 1) := by decide +kernel
theorem dX12_init_50 : decode cX12_init 50 = .ok (.putfield 26, 3) := by decide +kernel
theorem dX12_init_53 : decode cX12_init 53 = .ok (.aload_n 0, 1) := by decide +kernel
theorem dX12_init_54 : decode cX12_init 54 = .ok (.iconst 3, 1) := by decide +kernel
theorem dX12_init_55 : decode cX12_init 55 = .ok (.newarray .int, 2) := by decide +kernel
theorem dX12_init_57 : decode cX12_init 57 = .ok (.putfield 30, 3) := by decide +kernel
theorem dX12_init_60 : decode cX12_init 60 = .ok (.aload_n 0, 1) := by decide +kernel
theorem dX12_init_61 : decode cX12_init 61 = .ok (.iconst 3, 1) := by decide +kernel
theorem dX12_init_62 : decode cX12_init 62 = .ok (.newarray .int, 2) := by decide +kernel
theorem dX12_init_64 : decode cX12_init 64 = .ok (.putfield 33, 3) := by decide +kernel
theorem dX12_init_67 : decode cX12_init 67 = .ok (.aload_n 0, 1) := by decide +kernel
theorem dX12_init_68 : decode cX12_init 68 = .ok (.sipush 400, 3) := by decide +kernel
theorem dX12_init_71 : decode cX12_init 71 = .ok (.newarray .int, 2) := by decide +kernel
theorem dX12_init_73 : decode cX12_init 73 = .ok (.putfield 36, 3) := by decide +kernel
theorem dX12_init_76 : decode cX12_init 76 = .ok (.aload_n 0, 1) := by decide +kernel
theorem dX12_init_77 : decode cX12_init 77 = .ok (.bipush 6, 2) := by decide +kernel
theorem dX12_init_79 : decode cX12_init 79 = .ok (.newarray .int, 2) := by decide +kernel
theorem dX12_init_81 : decode cX12_init 81 = .ok (.putfield 39, 3) := by decide +kernel
theorem dX12_init_84 : decode cX12_init 84 = .ok (.aload_n 0, 1) := by decide +kernel
theorem dX12_init_85 : decode cX12_init 85 = .ok (.bipush 6, 2) := by decide +kernel
theorem dX12_init_87 : decode cX12_init 87 = .ok (.newarray .int, 2) := by decide +kernel
theorem dX12_init_89 : decode cX12_init 89 = .ok (.putfield 42, 3) := by decide +kernel
theorem dX12_init_92 : decode cX12_init 92 = .ok (.aload_n 0, 1) := by decide +kernel
theorem dX12_init_93 : decode cX12_init 93 = .ok (.getfield 9, 3) := by decide +kernel
theorem dX12_init_96 : decode cX12_init 96 = .ok (.iconst 4, 1) := by decide +kernel
theorem dX12_init_97 : decode cX12_init 97 = .ok (.iconst (-1), 1) := by decide +kernel
theorem dX12_init_98 : decode cX12_init 98 = .ok (.iastore, 1) := by decide +kernel
theorem dX12_init_99 : decode cX12_init 99 = .ok (.aload_n 0, 1) := by decide +kernel
theorem dX12_init_100 : decode cX12_init 100 = .ok (.getfield 9, 3) := by decide +kernel
theorem dX12_init_103 : decode cX12_init 103 = .ok (.iconst 5, 1) := by decide +kernel
theorem dX12_init_104 : decode cX12_init 104 = .ok (.iconst (-1), 1) := by decide +kernel
theorem dX12_init_105 : decode cX12_init 105 = .ok (.iastore, 1) := by decide +kernel
theorem dX12_init_106 : decode cX12_init 106 = .ok (.aload_n 0, 1) := by decide +kernel
theorem dX12_init_107 : decode cX12_init 107 = .ok (.getfield 9, 3) := by decide +kernel
theorem dX12_init_110 : decode cX12_init 110 = .ok (.bipush 12, 2) := by decide +kernel
theorem dX12_init_112 : decode cX12_init 112 = .ok (.sipush 480, 3) := by decide +kernel
theorem dX12_init_115 : decode cX12_init 115 = .ok (.iastore, 1) := by decide +kernel
theorem dX12_init_116 : decode cX12_init 116 = .ok (.aload_n 0, 1) := by decide +kernel
theorem dX12_init_117 : decode cX12_init 117 = .ok (.getfield 9, 3) := by decide +kernel
theorem dX12_init_120 : decode cX12_init 120 = .ok (.bipush 13, 2) := by decide +kernel
theorem dX12_init_122 : decode cX12_init 122 = .ok (.bipush 60, 2) := by decide +kernel
theorem dX12_init_124 : decode cX12_init 124 = .ok (.iastore, 1) := by decide +kernel
theorem dX12_init_125 : decode cX12_init 125 = .ok (.aload_n 0, 1) := by decide +kernel
theorem dX12_init_126 : decode cX12_init 126 = .ok (.getfield 9, 3) := by decide +kernel
theorem dX12_init_129 : decode cX12_init 129 = .ok (.bipush 14, 2) := by decide +kernel
theorem dX12_init_131 : decode cX12_init 131 = .ok (.iconst 2, 1) := by decide +kernel
theorem dX12_init_132 : decode cX12_init 132 = .ok (.iastore, 1) := by decide +kernel
theorem dX12_init_133 : decode cX12_init 133 = .ok (.aload_n 0, 1) := by decide +kernel
theorem dX12_init_134 : decode cX12_init 134 = .ok (.getfield 9, 3) := by decide +kernel
theorem dX12_init_137 : decode cX12_init 137 = .ok (.bipush 15, 2) := by decide +kernel
theorem dX12_init_139 : decode cX12_init 139 = .ok (.bipush 10, 2) := by decide +kernel
theorem dX12_init_141 : decode cX12_init 141 = .ok (.iastore, 1) := by decide +kernel
theorem dX12_init_142 : decode cX12_init 142 = .ok (.iconst 0, 1) := by decide +kernel
theorem dX12_init_143 : decode cX12_init 143 = .ok (.istore_n 1, 1) := by decide +kernel
theorem dX12_init_144 : decode cX12_init 144 = .ok (.iload_n 1, 1) := by decide +kernel
theorem dX12_init_145 : decode cX12_init 145 = .ok (.iconst 3, 1) := by decide +kernel
theorem dX12_init_146 : decode cX12_init 146 = .ok (.if_icmp .ge 21, 3) := by decide +kernel
theorem dX12_init_149 : decode cX12_init 149 = .ok (.aload_n 0, 1) := by decide +kernel
theorem dX12_init_150 : decode cX12_init 150 = .ok (.getfield 9, 3) := by decide +kernel
theorem dX12_init_153 : decode cX12_init 153 = .ok (.bipush 100, 2) := by decide +kernel
theorem dX12_init_155 : decode cX12_init 155 = .ok (.iconst 3, 1) := by decide +kernel
theorem dX12_init_156 : decode cX12_init 156 = .ok (.iload_n 1, 1) := by decide +kernel
theorem dX12_init_157 : decode cX12_init 157 = .ok (.imul, 1) := by decide +kernel
theorem dX12_init_158 : decode cX12_init 158 = .ok (.iadd, 1) := by decide +kernel
theorem dX12_init_159 : decode cX12_init 159 = .ok (.iconst (-1), 1) := by decide +kernel
theorem dX12_init_160 : decode cX12_init 160 = .ok (.iastore, 1) := by decide +kernel
theorem dX12_init_161 : decode cX12_init 161 = .ok (.iinc 1 1, 3) := by decide +kernel
theorem dX12_init_164 : decode cX12_init 164 = .ok (.goto (-20), 3) := by decide +kernel
theorem dX12_init_167 : decode cX12_init 167 = .ok (.return_, 1) := by decide +kernel
theorem dX12_thrown_0 : decode cX12_thrown 0 = .ok (.aload_n 0, 1) := by decide +kernel
theorem dX12_thrown_1 : decode cX12_thrown 1 = .ok (.getfield 45, 3) := by decide +kernel
theorem dX12_thrown_4 : decode cX12_thrown 4 = .ok (.ireturn, 1) := by decide +kernel
theorem dX12_raises_0 : decode cX12_raises 0 = .ok (.aload_n 0, 1) := by decide +kernel
theorem dX12_raises_1 : decode cX12_raises 1 = .ok (.iload_n 1, 1) := by decide +kernel
theorem dX12_raises_2 : decode cX12_raises 2 = .ok (.putfield 45, 3) := by decide +kernel
theorem dX12_raises_5 : decode cX12_raises 5 = .ok (.iconst 0, 1) := by decide +kernel
theorem dX12_raises_6 : decode cX12_raises 6 = .ok (.ireturn, 1) := by decide +kernel
theorem dX12_in_0 : decode cX12_in 0 = .ok (.iload_n 0, 1) := by decide +kernel
theorem dX12_in_1 : decode cX12_in 1 = .ok (.iload_n 1, 1) := by decide +kernel
theorem dX12_in_2 : decode cX12_in 2 = .ok (.if_icmp .lt 12, 3) := by decide +kernel
theorem dX12_in_5 : decode cX12_in 5 = .ok (.iload_n 0, 1) := by decide +kernel
theorem dX12_in_6 : decode cX12_in 6 = .ok (.iload_n 2, 1) := by decide +kernel
theorem dX12_in_7 : decode cX12_in 7 = .ok (.if_icmp .gt 7, 3) := by decide +kernel
theorem dX12_in_10 : decode cX12_in 10 = .ok (.iconst 1, 1) := by decide +kernel
theorem dX12_in_11 : decode cX12_in 11 = .ok (.goto 4, 3) := by decide +kernel
theorem dX12_in_14 : decode cX12_in 14 = .ok (.iconst 0, 1) := by decide +kernel
theorem dX12_in_15 : decode cX12_in 15 = .ok (.ireturn, 1) := by decide +kernel
theorem dX12_tries_0 : decode cX12_tries 0 = .ok (.aload_n 0, 1) := by decide +kernel
theorem dX12_tries_1 : decode cX12_tries 1 = .ok (.iconst 0, 1) := by decide +kernel
theorem dX12_tries_2 : decode cX12_tries 2 = .ok (.putfield 45, 3) := by decide +kernel
theorem dX12_tries_5 : decode cX12_tries 5 = .ok (.iconst 0, 1) := by decide +kernel
theorem dX12_tries_6 : decode cX12_tries 6 = .ok (.istore_n 1, 1) := by decide +kernel
theorem dX12_tries_7 : decode cX12_tries 7 = .ok (.iload_n 1, 1) := by decide +kernel
theorem dX12_tries_8 : decode cX12_tries 8 = .ok (.sipush 313, 3) := by decide +kernel
theorem dX12_tries_11 : decode cX12_tries 11 = .ok (.if_icmp .ge 21, 3) := by decide +kernel
theorem dX12_tries_14 : decode cX12_tries 14 = .ok (.aload_n 0, 1) := by decide +kernel
theorem dX12_tries_15 : decode cX12_tries 15 = .ok (.getfield 13, 3) := by decide +kernel
theorem dX12_tries_18 : decode cX12_tries 18 = .ok (.iload_n 1, 1) := by decide +kernel
theorem dX12_tries_19 : decode cX12_tries 19 = .ok (.aload_n 0, 1) := by decide +kernel
theorem dX12_tries_20 : decode cX12_tries 20 = .ok (.getfield 9, 3) := by decide +kernel
theorem dX12_tries_23 : decode cX12_tries 23 = .ok (.iload_n 1, 1) := by decide +kernel
theorem dX12_tries_24 : decode cX12_tries 24 = .ok (.iaload, 1) := by decide +kernel
theorem dX12_tries_25 : decode cX12_tries 25 = .ok (.iastore, 1) := by decide +kernel
theorem dX12_tries_26 : decode cX12_tries 26 = .ok (.iinc 1 1, 3) := by decide +kernel
theorem dX12_tries_29 : decode cX12_tries 29 = .ok (.goto (-22), 3) := by decide +kernel
theorem dX12_tries_32 : decode cX12_tries 32 = .ok (.return_, 1) := by decide +kernel
theorem dX12_comesBack_0 : decode cX12_comesBack 0 = .ok (.iconst 0, 1) := by decide +kernel
theorem dX12_comesBack_1 : decode cX12_comesBack 1 = .ok (.istore_n 1, 1) := by decide +kernel
theorem dX12_comesBack_2 : decode cX12_comesBack 2 = .ok (.iload_n 1, 1) := by decide +kernel
theorem dX12_comesBack_3 : decode cX12_comesBack 3 = .ok (.sipush 313, 3) := by decide +kernel
theorem dX12_comesBack_6 : decode cX12_comesBack 6 = .ok (.if_icmp .ge 21, 3) := by decide +kernel
theorem dX12_comesBack_9 : decode cX12_comesBack 9 = .ok (.aload_n 0, 1) := by decide +kernel
theorem dX12_comesBack_10 : decode cX12_comesBack 10 = .ok (.getfield 9, 3) := by decide +kernel
theorem dX12_comesBack_13 : decode cX12_comesBack 13 = .ok (.iload_n 1, 1) := by decide +kernel
theorem dX12_comesBack_14 : decode cX12_comesBack 14 = .ok (.aload_n 0, 1) := by decide +kernel
theorem dX12_comesBack_15 : decode cX12_comesBack 15 = .ok (.getfield 13, 3) := by decide +kernel
theorem dX12_comesBack_18 : decode cX12_comesBack 18 = .ok (.iload_n 1, 1) := by decide +kernel
theorem dX12_comesBack_19 : decode cX12_comesBack 19 = .ok (.iaload, 1) := by decide +kernel
theorem dX12_comesBack_20 : decode cX12_comesBack 20 = .ok (.iastore, 1) := by decide +kernel
theorem dX12_comesBack_21 : decode cX12_comesBack 21 = .ok (.iinc 1 1, 3) := by decide +kernel
theorem dX12_comesBack_24 : decode cX12_comesBack 24 = .ok (.goto (-22), 3) := by decide +kernel
theorem dX12_comesBack_27 : decode cX12_comesBack 27 = .ok (.return_, 1) := by decide +kernel
theorem dX12_keeps_0 : decode cX12_keeps 0 = .ok (.aload_n 0, 1) := by decide +kernel
theorem dX12_keeps_1 : decode cX12_keeps 1 = .ok (.getfield 48, 3) := by decide +kernel
theorem dX12_keeps_4 : decode cX12_keeps 4 = .ok (.bipush 8, 2) := by decide +kernel
theorem dX12_keeps_6 : decode cX12_keeps 6 = .ok (.if_icmp .ne 44, 3) := by decide +kernel
theorem dX12_keeps_9 : decode cX12_keeps 9 = .ok (.iconst 0, 1) := by decide +kernel
theorem dX12_keeps_10 : decode cX12_keeps 10 = .ok (.istore_n 1, 1) := by decide +kernel
theorem dX12_keeps_11 : decode cX12_keeps 11 = .ok (.iload_n 1, 1) := by decide +kernel
theorem dX12_keeps_12 : decode cX12_keeps 12 = .ok (.sipush 2191, 3) := by decide +kernel
theorem dX12_keeps_15 : decode cX12_keeps 15 = .ok (.if_icmp .ge 25, 3) := by decide +kernel
theorem dX12_keeps_18 : decode cX12_keeps 18 = .ok (.aload_n 0, 1) := by decide +kernel
theorem dX12_keeps_19 : decode cX12_keeps 19 = .ok (.getfield 16, 3) := by decide +kernel
theorem dX12_keeps_22 : decode cX12_keeps 22 = .ok (.iload_n 1, 1) := by decide +kernel
theorem dX12_keeps_23 : decode cX12_keeps 23 = .ok (.aload_n 0, 1) := by decide +kernel
theorem dX12_keeps_24 : decode cX12_keeps 24 = .ok (.getfield 16, 3) := by decide +kernel
theorem dX12_keeps_27 : decode cX12_keeps 27 = .ok (.sipush 313, 3) := by decide +kernel
theorem dX12_keeps_30 : decode cX12_keeps 30 = .ok (.iload_n 1, 1) := by decide +kernel
theorem dX12_keeps_31 : decode cX12_keeps 31 = .ok (.iadd, 1) := by decide +kernel
theorem dX12_keeps_32 : decode cX12_keeps 32 = .ok (.iaload, 1) := by decide +kernel
theorem dX12_keeps_33 : decode cX12_keeps 33 = .ok (.iastore, 1) := by decide +kernel
theorem dX12_keeps_34 : decode cX12_keeps 34 = .ok (.iinc 1 1, 3) := by decide +kernel
theorem dX12_keeps_37 : decode cX12_keeps 37 = .ok (.goto (-26), 3) := by decide +kernel
theorem dX12_keeps_40 : decode cX12_keeps 40 = .ok (.aload_n 0, 1) := by decide +kernel
theorem dX12_keeps_41 : decode cX12_keeps 41 = .ok (.dup, 1) := by decide +kernel
theorem dX12_keeps_42 : decode cX12_keeps 42 = .ok (.getfield 48, 3) := by decide +kernel
theorem dX12_keeps_45 : decode cX12_keeps 45 = .ok (.iconst 1, 1) := by decide +kernel
theorem dX12_keeps_46 : decode cX12_keeps 46 = .ok (.isub, 1) := by decide +kernel
theorem dX12_keeps_47 : decode cX12_keeps 47 = .ok (.putfield 48, 3) := by decide +kernel
theorem dX12_keeps_50 : decode cX12_keeps 50 = .ok (.iconst 0, 1) := by decide +kernel
theorem dX12_keeps_51 : decode cX12_keeps 51 = .ok (.istore_n 1, 1) := by decide +kernel
theorem dX12_keeps_52 : decode cX12_keeps 52 = .ok (.iload_n 1, 1) := by decide +kernel
theorem dX12_keeps_53 : decode cX12_keeps 53 = .ok (.sipush 313, 3) := by decide +kernel
theorem dX12_keeps_56 : decode cX12_keeps 56 = .ok (.if_icmp .ge 30, 3) := by decide +kernel
theorem dX12_keeps_59 : decode cX12_keeps 59 = .ok (.aload_n 0, 1) := by decide +kernel
theorem dX12_keeps_60 : decode cX12_keeps 60 = .ok (.getfield 16, 3) := by decide +kernel
theorem dX12_keeps_63 : decode cX12_keeps 63 = .ok (.sipush 313, 3) := by decide +kernel
theorem dX12_keeps_66 : decode cX12_keeps 66 = .ok (.aload_n 0, 1) := by decide +kernel
theorem dX12_keeps_67 : decode cX12_keeps 67 = .ok (.getfield 48, 3) := by decide +kernel
theorem dX12_keeps_70 : decode cX12_keeps 70 = .ok (.imul, 1) := by decide +kernel
theorem dX12_keeps_71 : decode cX12_keeps 71 = .ok (.iload_n 1, 1) := by decide +kernel
theorem dX12_keeps_72 : decode cX12_keeps 72 = .ok (.iadd, 1) := by decide +kernel
theorem dX12_keeps_73 : decode cX12_keeps 73 = .ok (.aload_n 0, 1) := by decide +kernel
theorem dX12_keeps_74 : decode cX12_keeps 74 = .ok (.getfield 13, 3) := by decide +kernel
theorem dX12_keeps_77 : decode cX12_keeps 77 = .ok (.iload_n 1, 1) := by decide +kernel
theorem dX12_keeps_78 : decode cX12_keeps 78 = .ok (.iaload, 1) := by decide +kernel
theorem dX12_keeps_79 : decode cX12_keeps 79 = .ok (.iastore, 1) := by decide +kernel
theorem dX12_keeps_80 : decode cX12_keeps 80 = .ok (.iinc 1 1, 3) := by decide +kernel
theorem dX12_keeps_83 : decode cX12_keeps 83 = .ok (.goto (-31), 3) := by decide +kernel
theorem dX12_keeps_86 : decode cX12_keeps 86 = .ok (.aload_n 0, 1) := by decide +kernel
theorem dX12_keeps_87 : decode cX12_keeps 87 = .ok (.dup, 1) := by decide +kernel
theorem dX12_keeps_88 : decode cX12_keeps 88 = .ok (.getfield 48, 3) := by decide +kernel
theorem dX12_keeps_91 : decode cX12_keeps 91 = .ok (.iconst 1, 1) := by decide +kernel
theorem dX12_keeps_92 : decode cX12_keeps 92 = .ok (.iadd, 1) := by decide +kernel
theorem dX12_keeps_93 : decode cX12_keeps 93 = .ok (.putfield 48, 3) := by decide +kernel
theorem dX12_keeps_96 : decode cX12_keeps 96 = .ok (.return_, 1) := by decide +kernel
theorem dX12_refuses_0 : decode cX12_refuses 0 = .ok (.aload_n 0, 1) := by decide +kernel
theorem dX12_refuses_1 : decode cX12_refuses 1 = .ok (.iconst 1, 1) := by decide +kernel
theorem dX12_refuses_2 : decode cX12_refuses 2 = .ok (.putfield 51, 3) := by decide +kernel
theorem dX12_refuses_5 : decode cX12_refuses 5 = .ok (.aload_n 0, 1) := by decide +kernel
theorem dX12_refuses_6 : decode cX12_refuses 6 = .ok (.getfield 30, 3) := by decide +kernel
theorem dX12_refuses_9 : decode cX12_refuses 9 = .ok (.iconst 0, 1) := by decide +kernel
theorem dX12_refuses_10 : decode cX12_refuses 10 = .ok (.iload_n 1, 1) := by decide +kernel
theorem dX12_refuses_11 : decode cX12_refuses 11 = .ok (.iastore, 1) := by decide +kernel
theorem dX12_refuses_12 : decode cX12_refuses 12 = .ok (.aload_n 0, 1) := by decide +kernel
theorem dX12_refuses_13 : decode cX12_refuses 13 = .ok (.getfield 33, 3) := by decide +kernel
theorem dX12_refuses_16 : decode cX12_refuses 16 = .ok (.iconst 0, 1) := by decide +kernel
theorem dX12_refuses_17 : decode cX12_refuses 17 = .ok (.iload_n 2, 1) := by decide +kernel
theorem dX12_refuses_18 : decode cX12_refuses 18 = .ok (.iastore, 1) := by decide +kernel
theorem dX12_refuses_19 : decode cX12_refuses 19 = .ok (.iconst 0, 1) := by decide +kernel
theorem dX12_refuses_20 : decode cX12_refuses 20 = .ok (.ireturn, 1) := by decide +kernel
theorem dX12_behind_0 : decode cX12_behind 0 = .ok (.aload_n 0, 1) := by decide +kernel
theorem dX12_behind_1 : decode cX12_behind 1 = .ok (.getfield 30, 3) := by decide +kernel
theorem dX12_behind_4 : decode cX12_behind 4 = .ok (.aload_n 0, 1) := by decide +kernel
theorem dX12_behind_5 : decode cX12_behind 5 = .ok (.getfield 51, 3) := by decide +kernel
theorem dX12_behind_8 : decode cX12_behind 8 = .ok (.iload_n 1, 1) := by decide +kernel
theorem dX12_behind_9 : decode cX12_behind 9 = .ok (.iastore, 1) := by decide +kernel
theorem dX12_behind_10 : decode cX12_behind 10 = .ok (.aload_n 0, 1) := by decide +kernel
theorem dX12_behind_11 : decode cX12_behind 11 = .ok (.getfield 33, 3) := by decide +kernel
theorem dX12_behind_14 : decode cX12_behind 14 = .ok (.aload_n 0, 1) := by decide +kernel
theorem dX12_behind_15 : decode cX12_behind 15 = .ok (.getfield 51, 3) := by decide +kernel
theorem dX12_behind_18 : decode cX12_behind 18 = .ok (.iload_n 2, 1) := by decide +kernel
theorem dX12_behind_19 : decode cX12_behind 19 = .ok (.iastore, 1) := by decide +kernel
theorem dX12_behind_20 : decode cX12_behind 20 = .ok (.aload_n 0, 1) := by decide +kernel
theorem dX12_behind_21 : decode cX12_behind 21 = .ok (.dup, 1) := by decide +kernel
theorem dX12_behind_22 : decode cX12_behind 22 = .ok (.getfield 51, 3) := by decide +kernel
theorem dX12_behind_25 : decode cX12_behind 25 = .ok (.iconst 1, 1) := by decide +kernel
theorem dX12_behind_26 : decode cX12_behind 26 = .ok (.iadd, 1) := by decide +kernel
theorem dX12_behind_27 : decode cX12_behind 27 = .ok (.putfield 51, 3) := by decide +kernel
theorem dX12_behind_30 : decode cX12_behind 30 = .ok (.return_, 1) := by decide +kernel
theorem dX12_ends_0 : decode cX12_ends 0 = .ok (.iload_n 1, 1) := by decide +kernel
theorem dX12_ends_1 : decode cX12_ends 1 = .ok (.ifCond .ne 9, 3) := by decide +kernel
theorem dX12_ends_4 : decode cX12_ends 4 = .ok (.aload_n 0, 1) := by decide +kernel
theorem dX12_ends_5 : decode cX12_ends 5 = .ok (.iconst 1, 1) := by decide +kernel
theorem dX12_ends_6 : decode cX12_ends 6 = .ok (.invokevirtual 54, 3) := by decide +kernel
theorem dX12_ends_9 : decode cX12_ends 9 = .ok (.ireturn, 1) := by decide +kernel
theorem dX12_ends_10 : decode cX12_ends 10 = .ok (.aload_n 0, 1) := by decide +kernel
theorem dX12_ends_11 : decode cX12_ends 11 = .ok (.invokevirtual 58, 3) := by decide +kernel
theorem dX12_ends_14 : decode cX12_ends 14 = .ok (.aload_n 0, 1) := by decide +kernel
theorem dX12_ends_15 : decode cX12_ends 15 = .ok (.getfield 61, 3) := by decide +kernel
theorem dX12_ends_18 : decode cX12_ends 18 = .ok (.ireturn, 1) := by decide +kernel
theorem dX12_is_0 : decode cX12_is 0 = .ok (.aload_n 0, 1) := by decide +kernel
theorem dX12_is_1 : decode cX12_is 1 = .ok (.iload_n 1, 1) := by decide +kernel
theorem dX12_is_2 : decode cX12_is 2 = .ok (.putfield 61, 3) := by decide +kernel
theorem dX12_is_5 : decode cX12_is 5 = .ok (.iconst 1, 1) := by decide +kernel
theorem dX12_is_6 : decode cX12_is 6 = .ok (.ireturn, 1) := by decide +kernel
theorem dX12_isColour_0 : decode cX12_isColour 0 = .ok (.iload_n 1, 1) := by decide +kernel
theorem dX12_isColour_1 : decode cX12_isColour 1 = .ok (.iconst 0, 1) := by decide +kernel
theorem dX12_isColour_2 : decode cX12_isColour 2 = .ok (.aload_n 0, 1) := by decide +kernel
theorem dX12_isColour_3 : decode cX12_isColour 3 = .ok (.getfield 9, 3) := by decide +kernel
theorem dX12_isColour_6 : decode cX12_isColour 6 = .ok (.iconst 0, 1) := by decide +kernel
theorem dX12_isColour_7 : decode cX12_isColour 7 = .ok (.iaload, 1) := by decide +kernel
theorem dX12_isColour_8 : decode cX12_isColour 8 = .ok (.iconst 1, 1) := by decide +kernel
theorem dX12_isColour_9 : decode cX12_isColour 9 = .ok (.isub, 1) := by decide +kernel
theorem dX12_isColour_10 : decode cX12_isColour 10 = .ok (.invokestatic 64, 3) := by decide +kernel
theorem dX12_isColour_13 : decode cX12_isColour 13 = .ok (.ireturn, 1) := by decide +kernel
theorem dX12_isPart_0 : decode cX12_isPart 0 = .ok (.iload_n 1, 1) := by decide +kernel
theorem dX12_isPart_1 : decode cX12_isPart 1 = .ok (.iconst 0, 1) := by decide +kernel
theorem dX12_isPart_2 : decode cX12_isPart 2 = .ok (.aload_n 0, 1) := by decide +kernel
theorem dX12_isPart_3 : decode cX12_isPart 3 = .ok (.getfield 9, 3) := by decide +kernel
theorem dX12_isPart_6 : decode cX12_isPart 6 = .ok (.iconst 1, 1) := by decide +kernel
theorem dX12_isPart_7 : decode cX12_isPart 7 = .ok (.iaload, 1) := by decide +kernel
theorem dX12_isPart_8 : decode cX12_isPart 8 = .ok (.iconst 1, 1) := by decide +kernel
theorem dX12_isPart_9 : decode cX12_isPart 9 = .ok (.isub, 1) := by decide +kernel
theorem dX12_isPart_10 : decode cX12_isPart 10 = .ok (.invokestatic 64, 3) := by decide +kernel
theorem dX12_isPart_13 : decode cX12_isPart 13 = .ok (.ireturn, 1) := by decide +kernel
theorem dX12_isFamily_0 : decode cX12_isFamily 0 = .ok (.iload_n 1, 1) := by decide +kernel
theorem dX12_isFamily_1 : decode cX12_isFamily 1 = .ok (.iconst 0, 1) := by decide +kernel
theorem dX12_isFamily_2 : decode cX12_isFamily 2 = .ok (.aload_n 0, 1) := by decide +kernel
theorem dX12_isFamily_3 : decode cX12_isFamily 3 = .ok (.getfield 9, 3) := by decide +kernel
theorem dX12_isFamily_6 : decode cX12_isFamily 6 = .ok (.iconst 2, 1) := by decide +kernel
theorem dX12_isFamily_7 : decode cX12_isFamily 7 = .ok (.iaload, 1) := by decide +kernel
theorem dX12_isFamily_8 : decode cX12_isFamily 8 = .ok (.iconst 1, 1) := by decide +kernel
theorem dX12_isFamily_9 : decode cX12_isFamily 9 = .ok (.isub, 1) := by decide +kernel
theorem dX12_isFamily_10 : decode cX12_isFamily 10 = .ok (.invokestatic 64, 3) := by decide +kernel
theorem dX12_isFamily_13 : decode cX12_isFamily 13 = .ok (.ireturn, 1) := by decide +kernel
theorem dX12_isDryer_0 : decode cX12_isDryer 0 = .ok (.iload_n 0, 1) := by decide +kernel
theorem dX12_isDryer_1 : decode cX12_isDryer 1 = .ok (.iconst 0, 1) := by decide +kernel
theorem dX12_isDryer_2 : decode cX12_isDryer 2 = .ok (.iconst 2, 1) := by decide +kernel
theorem dX12_isDryer_3 : decode cX12_isDryer 3 = .ok (.invokestatic 64, 3) := by decide +kernel
theorem dX12_isDryer_6 : decode cX12_isDryer 6 = .ok (.ireturn, 1) := by decide +kernel
theorem dX12_isOrder_0 : decode cX12_isOrder 0 = .ok (.iload_n 1, 1) := by decide +kernel
theorem dX12_isOrder_1 : decode cX12_isOrder 1 = .ok (.iconst 0, 1) := by decide +kernel
theorem dX12_isOrder_2 : decode cX12_isOrder 2 = .ok (.aload_n 0, 1) := by decide +kernel
theorem dX12_isOrder_3 : decode cX12_isOrder 3 = .ok (.getfield 9, 3) := by decide +kernel
theorem dX12_isOrder_6 : decode cX12_isOrder 6 = .ok (.iconst 3, 1) := by decide +kernel
theorem dX12_isOrder_7 : decode cX12_isOrder 7 = .ok (.iaload, 1) := by decide +kernel
theorem dX12_isOrder_8 : decode cX12_isOrder 8 = .ok (.iconst 1, 1) := by decide +kernel
theorem dX12_isOrder_9 : decode cX12_isOrder 9 = .ok (.isub, 1) := by decide +kernel
theorem dX12_isOrder_10 : decode cX12_isOrder 10 = .ok (.invokestatic 64, 3) := by decide +kernel
theorem dX12_isOrder_13 : decode cX12_isOrder 13 = .ok (.ireturn, 1) := by decide +kernel
theorem dX12_of_0 : decode cX12_of 0 = .ok (.aload_n 0, 1) := by decide +kernel
theorem dX12_of_1 : decode cX12_of 1 = .ok (.getfield 9, 3) := by decide +kernel
theorem dX12_of_4 : decode cX12_of 4 = .ok (.bipush 46, 2) := by decide +kernel
theorem dX12_of_6 : decode cX12_of 6 = .ok (.bipush 9, 2) := by decide +kernel
theorem dX12_of_8 : decode cX12_of 8 = .ok (.iload_n 1, 1) := by decide +kernel
theorem dX12_of_9 : decode cX12_of 9 = .ok (.imul, 1) := by decide +kernel
theorem dX12_of_10 : decode cX12_of 10 = .ok (.iadd, 1) := by decide +kernel
theorem dX12_of_11 : decode cX12_of 11 = .ok (.iload_n 2, 1) := by decide +kernel
theorem dX12_of_12 : decode cX12_of 12 = .ok (.iadd, 1) := by decide +kernel
theorem dX12_of_13 : decode cX12_of 13 = .ok (.iaload, 1) := by decide +kernel
theorem dX12_of_14 : decode cX12_of 14 = .ok (.ireturn, 1) := by decide +kernel
theorem dX12_ordered_0 : decode cX12_ordered 0 = .ok (.aload_n 0, 1) := by decide +kernel
theorem dX12_ordered_1 : decode cX12_ordered 1 = .ok (.getfield 9, 3) := by decide +kernel
theorem dX12_ordered_4 : decode cX12_ordered 4 = .ok (.sipush 253, 3) := by decide +kernel
theorem dX12_ordered_7 : decode cX12_ordered 7 = .ok (.bipush 6, 2) := by decide +kernel
theorem dX12_ordered_9 : decode cX12_ordered 9 = .ok (.iload_n 1, 1) := by decide +kernel
theorem dX12_ordered_10 : decode cX12_ordered 10 = .ok (.imul, 1) := by decide +kernel
theorem dX12_ordered_11 : decode cX12_ordered 11 = .ok (.iadd, 1) := by decide +kernel
theorem dX12_ordered_12 : decode cX12_ordered 12 = .ok (.iload_n 2, 1) := by decide +kernel
theorem dX12_ordered_13 : decode cX12_ordered 13 = .ok (.iadd, 1) := by decide +kernel
theorem dX12_ordered_14 : decode cX12_ordered 14 = .ok (.iaload, 1) := by decide +kernel
theorem dX12_ordered_15 : decode cX12_ordered 15 = .ok (.ireturn, 1) := by decide +kernel
theorem dX12_place_0 : decode cX12_place 0 = .ok (.bipush 6, 2) := by decide +kernel
theorem dX12_place_2 : decode cX12_place 2 = .ok (.iload_n 0, 1) := by decide +kernel
theorem dX12_place_3 : decode cX12_place 3 = .ok (.imul, 1) := by decide +kernel
theorem dX12_place_4 : decode cX12_place 4 = .ok (.iload_n 1, 1) := by decide +kernel
theorem dX12_place_5 : decode cX12_place 5 = .ok (.iadd, 1) := by decide +kernel
theorem dX12_place_6 : decode cX12_place 6 = .ok (.ireturn, 1) := by decide +kernel
theorem dX12_weekEnds_0 : decode cX12_weekEnds 0 = .ok (.iconst 0, 1) := by decide +kernel
theorem dX12_weekEnds_1 : decode cX12_weekEnds 1 = .ok (.istore_n 1, 1) := by decide +kernel
theorem dX12_weekEnds_2 : decode cX12_weekEnds 2 = .ok (.iload_n 1, 1) := by decide +kernel
theorem dX12_weekEnds_3 : decode cX12_weekEnds 3 = .ok (.aload_n 0, 1) := by decide +kernel
theorem dX12_weekEnds_4 : decode cX12_weekEnds 4 = .ok (.getfield 9, 3) := by decide +kernel
theorem dX12_weekEnds_7 : decode cX12_weekEnds 7 = .ok (.iconst 3, 1) := by decide +kernel
theorem dX12_weekEnds_8 : decode cX12_weekEnds 8 = .ok (.iaload, 1) := by decide +kernel
theorem dX12_weekEnds_9 : decode cX12_weekEnds 9 = .ok (.if_icmp .ge 153, 3) := by decide +kernel
theorem dX12_weekEnds_12 : decode cX12_weekEnds 12 = .ok (.sipush 253, 3) := by decide +kernel
theorem dX12_weekEnds_15 : decode cX12_weekEnds 15 = .ok (.bipush 6, 2) := by decide +kernel
theorem dX12_weekEnds_17 : decode cX12_weekEnds 17 = .ok (.iload_n 1, 1) := by decide +kernel
theorem dX12_weekEnds_18 : decode cX12_weekEnds 18 = .ok (.imul, 1) := by decide +kernel
theorem dX12_weekEnds_19 : decode cX12_weekEnds 19 = .ok (.iadd, 1) := by decide +kernel
theorem dX12_weekEnds_20 : decode cX12_weekEnds 20 = .ok (.istore_n 2, 1) := by decide +kernel
theorem dX12_weekEnds_21 : decode cX12_weekEnds 21 = .ok (.aload_n 0, 1) := by decide +kernel
theorem dX12_weekEnds_22 : decode cX12_weekEnds 22 = .ok (.getfield 9, 3) := by decide +kernel
theorem dX12_weekEnds_25 : decode cX12_weekEnds 25 = .ok (.iload_n 2, 1) := by decide +kernel
theorem dX12_weekEnds_26 : decode cX12_weekEnds 26 = .ok (.iconst 4, 1) := by decide +kernel
theorem dX12_weekEnds_27 : decode cX12_weekEnds 27 = .ok (.iadd, 1) := by decide +kernel
theorem dX12_weekEnds_28 : decode cX12_weekEnds 28 = .ok (.iaload, 1) := by decide +kernel
theorem dX12_weekEnds_29 : decode cX12_weekEnds 29 = .ok (.ifCond .ne 127, 3) := by decide +kernel
theorem dX12_weekEnds_32 : decode cX12_weekEnds 32 = .ok (.aload_n 0, 1) := by decide +kernel
theorem dX12_weekEnds_33 : decode cX12_weekEnds 33 = .ok (.getfield 9, 3) := by decide +kernel
theorem dX12_weekEnds_36 : decode cX12_weekEnds 36 = .ok (.iload_n 2, 1) := by decide +kernel
theorem dX12_weekEnds_37 : decode cX12_weekEnds 37 = .ok (.iconst 3, 1) := by decide +kernel
theorem dX12_weekEnds_38 : decode cX12_weekEnds 38 = .ok (.iadd, 1) := by decide +kernel
theorem dX12_weekEnds_39 : decode cX12_weekEnds 39 = .ok (.iaload, 1) := by decide +kernel
theorem dX12_weekEnds_40 : decode cX12_weekEnds 40 = .ok (.aload_n 0, 1) := by decide +kernel
theorem dX12_weekEnds_41 : decode cX12_weekEnds 41 = .ok (.getfield 9, 3) := by decide +kernel
theorem dX12_weekEnds_44 : decode cX12_weekEnds 44 = .ok (.bipush 7, 2) := by decide +kernel
theorem dX12_weekEnds_46 : decode cX12_weekEnds 46 = .ok (.iaload, 1) := by decide +kernel
theorem dX12_weekEnds_47 : decode cX12_weekEnds 47 = .ok (.if_icmp .le 6, 3) := by decide +kernel
theorem dX12_weekEnds_50 : decode cX12_weekEnds 50 = .ok (.goto 106, 3) := by decide +kernel
theorem dX12_weekEnds_53 : decode cX12_weekEnds 53 = .ok (.aload_n 0, 1) := by decide +kernel
theorem dX12_weekEnds_54 : decode cX12_weekEnds 54 = .ok (.getfield 9, 3) := by decide +kernel
theorem dX12_weekEnds_57 : decode cX12_weekEnds 57 = .ok (.iload_n 2, 1) := by decide +kernel
theorem dX12_weekEnds_58 : decode cX12_weekEnds 58 = .ok (.iaload, 1) := by decide +kernel
theorem dX12_weekEnds_59 : decode cX12_weekEnds 59 = .ok (.aload_n 0, 1) := by decide +kernel
theorem dX12_weekEnds_60 : decode cX12_weekEnds 60 = .ok (.getfield 9, 3) := by decide +kernel
theorem dX12_weekEnds_63 : decode cX12_weekEnds 63 = .ok (.iload_n 2, 1) := by decide +kernel
theorem dX12_weekEnds_64 : decode cX12_weekEnds 64 = .ok (.iconst 1, 1) := by decide +kernel
theorem dX12_weekEnds_65 : decode cX12_weekEnds 65 = .ok (.iadd, 1) := by decide +kernel
theorem dX12_weekEnds_66 : decode cX12_weekEnds 66 = .ok (.iaload, 1) := by decide +kernel
theorem dX12_weekEnds_67 : decode cX12_weekEnds 67 = .ok (.invokestatic 68, 3) := by decide +kernel
theorem dX12_weekEnds_70 : decode cX12_weekEnds 70 = .ok (.istore_n 3, 1) := by decide +kernel
theorem dX12_weekEnds_71 : decode cX12_weekEnds 71 = .ok (.aload_n 0, 1) := by decide +kernel
theorem dX12_weekEnds_72 : decode cX12_weekEnds 72 = .ok (.getfield 9, 3) := by decide +kernel
theorem dX12_weekEnds_75 : decode cX12_weekEnds 75 = .ok (.bipush 109, 2) := by decide +kernel
theorem dX12_weekEnds_77 : decode cX12_weekEnds 77 = .ok (.iload_n 3, 1) := by decide +kernel
theorem dX12_weekEnds_78 : decode cX12_weekEnds 78 = .ok (.iadd, 1) := by decide +kernel
theorem dX12_weekEnds_79 : decode cX12_weekEnds 79 = .ok (.iaload, 1) := by decide +kernel
theorem dX12_weekEnds_80 : decode cX12_weekEnds 80 = .ok (.aload_n 0, 1) := by decide +kernel
theorem dX12_weekEnds_81 : decode cX12_weekEnds 81 = .ok (.getfield 9, 3) := by decide +kernel
theorem dX12_weekEnds_84 : decode cX12_weekEnds 84 = .ok (.iload_n 2, 1) := by decide +kernel
theorem dX12_weekEnds_85 : decode cX12_weekEnds 85 = .ok (.iconst 2, 1) := by decide +kernel
theorem dX12_weekEnds_86 : decode cX12_weekEnds 86 = .ok (.iadd, 1) := by decide +kernel
theorem dX12_weekEnds_87 : decode cX12_weekEnds 87 = .ok (.iaload, 1) := by decide +kernel
theorem dX12_weekEnds_88 : decode cX12_weekEnds 88 = .ok (.if_icmp .lt 56, 3) := by decide +kernel
theorem dX12_weekEnds_91 : decode cX12_weekEnds 91 = .ok (.aload_n 0, 1) := by decide +kernel
theorem dX12_weekEnds_92 : decode cX12_weekEnds 92 = .ok (.getfield 9, 3) := by decide +kernel
theorem dX12_weekEnds_95 : decode cX12_weekEnds 95 = .ok (.bipush 109, 2) := by decide +kernel
theorem dX12_weekEnds_97 : decode cX12_weekEnds 97 = .ok (.iload_n 3, 1) := by decide +kernel
theorem dX12_weekEnds_98 : decode cX12_weekEnds 98 = .ok (.iadd, 1) := by decide +kernel
theorem dX12_weekEnds_99 : decode cX12_weekEnds 99 = .ok (.dup2, 1) := by decide +kernel
theorem dX12_weekEnds_100 : decode cX12_weekEnds 100 = .ok (.iaload, 1) := by decide +kernel
theorem dX12_weekEnds_101 : decode cX12_weekEnds 101 = .ok (.aload_n 0, 1) := by decide +kernel
theorem dX12_weekEnds_102 : decode cX12_weekEnds 102 = .ok (.getfield 9, 3) := by decide +kernel
theorem dX12_weekEnds_105 : decode cX12_weekEnds 105 = .ok (.iload_n 2, 1) := by decide +kernel
theorem dX12_weekEnds_106 : decode cX12_weekEnds 106 = .ok (.iconst 2, 1) := by decide +kernel
theorem dX12_weekEnds_107 : decode cX12_weekEnds 107 = .ok (.iadd, 1) := by decide +kernel
theorem dX12_weekEnds_108 : decode cX12_weekEnds 108 = .ok (.iaload, 1) := by decide +kernel
theorem dX12_weekEnds_109 : decode cX12_weekEnds 109 = .ok (.isub, 1) := by decide +kernel
theorem dX12_weekEnds_110 : decode cX12_weekEnds 110 = .ok (.iastore, 1) := by decide +kernel
theorem dX12_weekEnds_111 : decode cX12_weekEnds 111 = .ok (.aload_n 0, 1) := by decide +kernel
theorem dX12_weekEnds_112 : decode cX12_weekEnds 112 = .ok (.getfield 9, 3) := by decide +kernel
theorem dX12_weekEnds_115 : decode cX12_weekEnds 115 = .ok (.sipush 205, 3) := by decide +kernel
theorem dX12_weekEnds_118 : decode cX12_weekEnds 118 = .ok (.iload_n 3, 1) := by decide +kernel
theorem dX12_weekEnds_119 : decode cX12_weekEnds 119 = .ok (.iadd, 1) := by decide +kernel
theorem dX12_weekEnds_120 : decode cX12_weekEnds 120 = .ok (.dup2, 1) := by decide +kernel
theorem dX12_weekEnds_121 : decode cX12_weekEnds 121 = .ok (.iaload, 1) := by decide +kernel
theorem dX12_weekEnds_122 : decode cX12_weekEnds 122 = .ok (.aload_n 0, 1) := by decide +kernel
theorem dX12_weekEnds_123 : decode cX12_weekEnds 123 = .ok (.getfield 9, 3) := by decide +kernel
theorem dX12_weekEnds_126 : decode cX12_weekEnds 126 = .ok (.iload_n 2, 1) := by decide +kernel
theorem dX12_weekEnds_127 : decode cX12_weekEnds 127 = .ok (.iconst 2, 1) := by decide +kernel
theorem dX12_weekEnds_128 : decode cX12_weekEnds 128 = .ok (.iadd, 1) := by decide +kernel
theorem dX12_weekEnds_129 : decode cX12_weekEnds 129 = .ok (.iaload, 1) := by decide +kernel
theorem dX12_weekEnds_130 : decode cX12_weekEnds 130 = .ok (.iadd, 1) := by decide +kernel
theorem dX12_weekEnds_131 : decode cX12_weekEnds 131 = .ok (.iastore, 1) := by decide +kernel
theorem dX12_weekEnds_132 : decode cX12_weekEnds 132 = .ok (.aload_n 0, 1) := by decide +kernel
theorem dX12_weekEnds_133 : decode cX12_weekEnds 133 = .ok (.getfield 9, 3) := by decide +kernel
theorem dX12_weekEnds_136 : decode cX12_weekEnds 136 = .ok (.iload_n 2, 1) := by decide +kernel
theorem dX12_weekEnds_137 : decode cX12_weekEnds 137 = .ok (.iconst 4, 1) := by decide +kernel
theorem dX12_weekEnds_138 : decode cX12_weekEnds 138 = .ok (.iadd, 1) := by decide +kernel
theorem dX12_weekEnds_139 : decode cX12_weekEnds 139 = .ok (.iconst 1, 1) := by decide +kernel
theorem dX12_weekEnds_140 : decode cX12_weekEnds 140 = .ok (.iastore, 1) := by decide +kernel
theorem dX12_weekEnds_141 : decode cX12_weekEnds 141 = .ok (.goto 15, 3) := by decide +kernel
theorem dX12_weekEnds_144 : decode cX12_weekEnds 144 = .ok (.aload_n 0, 1) := by decide +kernel
theorem dX12_weekEnds_145 : decode cX12_weekEnds 145 = .ok (.getfield 9, 3) := by decide +kernel
theorem dX12_weekEnds_148 : decode cX12_weekEnds 148 = .ok (.iload_n 2, 1) := by decide +kernel
theorem dX12_weekEnds_149 : decode cX12_weekEnds 149 = .ok (.iconst 5, 1) := by decide +kernel
theorem dX12_weekEnds_150 : decode cX12_weekEnds 150 = .ok (.iadd, 1) := by decide +kernel
theorem dX12_weekEnds_151 : decode cX12_weekEnds 151 = .ok (.dup2, 1) := by decide +kernel
theorem dX12_weekEnds_152 : decode cX12_weekEnds 152 = .ok (.iaload, 1) := by decide +kernel
theorem dX12_weekEnds_153 : decode cX12_weekEnds 153 = .ok (.iconst 1, 1) := by decide +kernel
theorem dX12_weekEnds_154 : decode cX12_weekEnds 154 = .ok (.iadd, 1) := by decide +kernel
theorem dX12_weekEnds_155 : decode cX12_weekEnds 155 = .ok (.iastore, 1) := by decide +kernel
theorem dX12_weekEnds_156 : decode cX12_weekEnds 156 = .ok (.iinc 1 1, 3) := by decide +kernel
theorem dX12_weekEnds_159 : decode cX12_weekEnds 159 = .ok (.goto (-157), 3) := by decide +kernel
theorem dX12_weekEnds_162 : decode cX12_weekEnds 162 = .ok (.aload_n 0, 1) := by decide +kernel
theorem dX12_weekEnds_163 : decode cX12_weekEnds 163 = .ok (.getfield 9, 3) := by decide +kernel
theorem dX12_weekEnds_166 : decode cX12_weekEnds 166 = .ok (.bipush 7, 2) := by decide +kernel
theorem dX12_weekEnds_168 : decode cX12_weekEnds 168 = .ok (.dup2, 1) := by decide +kernel
theorem dX12_weekEnds_169 : decode cX12_weekEnds 169 = .ok (.iaload, 1) := by decide +kernel
theorem dX12_weekEnds_170 : decode cX12_weekEnds 170 = .ok (.iconst 1, 1) := by decide +kernel
theorem dX12_weekEnds_171 : decode cX12_weekEnds 171 = .ok (.iadd, 1) := by decide +kernel
theorem dX12_weekEnds_172 : decode cX12_weekEnds 172 = .ok (.iastore, 1) := by decide +kernel
theorem dX12_weekEnds_173 : decode cX12_weekEnds 173 = .ok (.aload_n 0, 1) := by decide +kernel
theorem dX12_weekEnds_174 : decode cX12_weekEnds 174 = .ok (.getfield 9, 3) := by decide +kernel
theorem dX12_weekEnds_177 : decode cX12_weekEnds 177 = .ok (.bipush 8, 2) := by decide +kernel
theorem dX12_weekEnds_179 : decode cX12_weekEnds 179 = .ok (.iconst 0, 1) := by decide +kernel
theorem dX12_weekEnds_180 : decode cX12_weekEnds 180 = .ok (.iastore, 1) := by decide +kernel
theorem dX12_weekEnds_181 : decode cX12_weekEnds 181 = .ok (.return_, 1) := by decide +kernel
theorem dX12_passes_0 : decode cX12_passes 0 = .ok (.aload_n 0, 1) := by decide +kernel
theorem dX12_passes_1 : decode cX12_passes 1 = .ok (.getfield 9, 3) := by decide +kernel
theorem dX12_passes_4 : decode cX12_passes 4 = .ok (.bipush 7, 2) := by decide +kernel
theorem dX12_passes_6 : decode cX12_passes 6 = .ok (.iaload, 1) := by decide +kernel
theorem dX12_passes_7 : decode cX12_passes 7 = .ok (.istore_n 2, 1) := by decide +kernel
theorem dX12_passes_8 : decode cX12_passes 8 = .ok (.iconst 0, 1) := by decide +kernel
theorem dX12_passes_9 : decode cX12_passes 9 = .ok (.istore_n 3, 1) := by decide +kernel
theorem dX12_passes_10 : decode cX12_passes 10 = .ok (.iload_n 3, 1) := by decide +kernel
theorem dX12_passes_11 : decode cX12_passes 11 = .ok (.iload_n 1, 1) := by decide +kernel
theorem dX12_passes_12 : decode cX12_passes 12 = .ok (.if_icmp .ge 41, 3) := by decide +kernel
theorem dX12_passes_15 : decode cX12_passes 15 = .ok (.aload_n 0, 1) := by decide +kernel
theorem dX12_passes_16 : decode cX12_passes 16 = .ok (.getfield 9, 3) := by decide +kernel
theorem dX12_passes_19 : decode cX12_passes 19 = .ok (.bipush 8, 2) := by decide +kernel
theorem dX12_passes_21 : decode cX12_passes 21 = .ok (.dup2, 1) := by decide +kernel
theorem dX12_passes_22 : decode cX12_passes 22 = .ok (.iaload, 1) := by decide +kernel
theorem dX12_passes_23 : decode cX12_passes 23 = .ok (.iconst 1, 1) := by decide +kernel
theorem dX12_passes_24 : decode cX12_passes 24 = .ok (.iadd, 1) := by decide +kernel
theorem dX12_passes_25 : decode cX12_passes 25 = .ok (.iastore, 1) := by decide +kernel
theorem dX12_passes_26 : decode cX12_passes 26 = .ok (.aload_n 0, 1) := by decide +kernel
theorem dX12_passes_27 : decode cX12_passes 27 = .ok (.getfield 9, 3) := by decide +kernel
theorem dX12_passes_30 : decode cX12_passes 30 = .ok (.bipush 8, 2) := by decide +kernel
theorem dX12_passes_32 : decode cX12_passes 32 = .ok (.iaload, 1) := by decide +kernel
theorem dX12_passes_33 : decode cX12_passes 33 = .ok (.aload_n 0, 1) := by decide +kernel
theorem dX12_passes_34 : decode cX12_passes 34 = .ok (.getfield 9, 3) := by decide +kernel
theorem dX12_passes_37 : decode cX12_passes 37 = .ok (.bipush 12, 2) := by decide +kernel
theorem dX12_passes_39 : decode cX12_passes 39 = .ok (.iaload, 1) := by decide +kernel
theorem dX12_passes_40 : decode cX12_passes 40 = .ok (.if_icmp .lt 7, 3) := by decide +kernel
theorem dX12_passes_43 : decode cX12_passes 43 = .ok (.aload_n 0, 1) := by decide +kernel
theorem dX12_passes_44 : decode cX12_passes 44 = .ok (.invokevirtual 72, 3) := by decide +kernel
theorem dX12_passes_47 : decode cX12_passes 47 = .ok (.iinc 3 1, 3) := by decide +kernel
theorem dX12_passes_50 : decode cX12_passes 50 = .ok (.goto (-40), 3) := by decide +kernel
theorem dX12_passes_53 : decode cX12_passes 53 = .ok (.aload_n 0, 1) := by decide +kernel
theorem dX12_passes_54 : decode cX12_passes 54 = .ok (.getfield 9, 3) := by decide +kernel
theorem dX12_passes_57 : decode cX12_passes 57 = .ok (.bipush 6, 2) := by decide +kernel
theorem dX12_passes_59 : decode cX12_passes 59 = .ok (.dup2, 1) := by decide +kernel
theorem dX12_passes_60 : decode cX12_passes 60 = .ok (.iaload, 1) := by decide +kernel
theorem dX12_passes_61 : decode cX12_passes 61 = .ok (.iload_n 1, 1) := by decide +kernel
theorem dX12_passes_62 : decode cX12_passes 62 = .ok (.iadd, 1) := by decide +kernel
theorem dX12_passes_63 : decode cX12_passes 63 = .ok (.iastore, 1) := by decide +kernel
theorem dX12_passes_64 : decode cX12_passes 64 = .ok (.iconst 0, 1) := by decide +kernel
theorem dX12_passes_65 : decode cX12_passes 65 = .ok (.istore_n 3, 1) := by decide +kernel
theorem dX12_passes_66 : decode cX12_passes 66 = .ok (.iload_n 3, 1) := by decide +kernel
theorem dX12_passes_67 : decode cX12_passes 67 = .ok (.iconst 3, 1) := by decide +kernel
theorem dX12_passes_68 : decode cX12_passes 68 = .ok (.if_icmp .ge 40, 3) := by decide +kernel
theorem dX12_passes_71 : decode cX12_passes 71 = .ok (.aload_n 0, 1) := by decide +kernel
theorem dX12_passes_72 : decode cX12_passes 72 = .ok (.getfield 9, 3) := by decide +kernel
theorem dX12_passes_75 : decode cX12_passes 75 = .ok (.bipush 100, 2) := by decide +kernel
theorem dX12_passes_77 : decode cX12_passes 77 = .ok (.iconst 3, 1) := by decide +kernel
theorem dX12_passes_78 : decode cX12_passes 78 = .ok (.iload_n 3, 1) := by decide +kernel
theorem dX12_passes_79 : decode cX12_passes 79 = .ok (.imul, 1) := by decide +kernel
theorem dX12_passes_80 : decode cX12_passes 80 = .ok (.iadd, 1) := by decide +kernel
theorem dX12_passes_81 : decode cX12_passes 81 = .ok (.iaload, 1) := by decide +kernel
theorem dX12_passes_82 : decode cX12_passes 82 = .ok (.ifCond .lt 20, 3) := by decide +kernel
theorem dX12_passes_85 : decode cX12_passes 85 = .ok (.aload_n 0, 1) := by decide +kernel
theorem dX12_passes_86 : decode cX12_passes 86 = .ok (.getfield 9, 3) := by decide +kernel
theorem dX12_passes_89 : decode cX12_passes 89 = .ok (.bipush 100, 2) := by decide +kernel
theorem dX12_passes_91 : decode cX12_passes 91 = .ok (.iconst 3, 1) := by decide +kernel
theorem dX12_passes_92 : decode cX12_passes 92 = .ok (.iload_n 3, 1) := by decide +kernel
theorem dX12_passes_93 : decode cX12_passes 93 = .ok (.imul, 1) := by decide +kernel
theorem dX12_passes_94 : decode cX12_passes 94 = .ok (.iadd, 1) := by decide +kernel
theorem dX12_passes_95 : decode cX12_passes 95 = .ok (.iconst 2, 1) := by decide +kernel
theorem dX12_passes_96 : decode cX12_passes 96 = .ok (.iadd, 1) := by decide +kernel
theorem dX12_passes_97 : decode cX12_passes 97 = .ok (.dup2, 1) := by decide +kernel
theorem dX12_passes_98 : decode cX12_passes 98 = .ok (.iaload, 1) := by decide +kernel
theorem dX12_passes_99 : decode cX12_passes 99 = .ok (.iload_n 1, 1) := by decide +kernel
theorem dX12_passes_100 : decode cX12_passes 100 = .ok (.iadd, 1) := by decide +kernel
theorem dX12_passes_101 : decode cX12_passes 101 = .ok (.iastore, 1) := by decide +kernel
theorem dX12_passes_102 : decode cX12_passes 102 = .ok (.iinc 3 1, 3) := by decide +kernel
theorem dX12_passes_105 : decode cX12_passes 105 = .ok (.goto (-39), 3) := by decide +kernel
theorem dX12_passes_108 : decode cX12_passes 108 = .ok (.aload_n 0, 1) := by decide +kernel
theorem dX12_passes_109 : decode cX12_passes 109 = .ok (.getfield 9, 3) := by decide +kernel
theorem dX12_passes_112 : decode cX12_passes 112 = .ok (.bipush 7, 2) := by decide +kernel
theorem dX12_passes_114 : decode cX12_passes 114 = .ok (.iaload, 1) := by decide +kernel
theorem dX12_passes_115 : decode cX12_passes 115 = .ok (.iload_n 2, 1) := by decide +kernel
theorem dX12_passes_116 : decode cX12_passes 116 = .ok (.isub, 1) := by decide +kernel
theorem dX12_passes_117 : decode cX12_passes 117 = .ok (.ireturn, 1) := by decide +kernel
theorem dX12_doesColour_0 : decode cX12_doesColour 0 = .ok (.iload_n 1, 1) := by decide +kernel
theorem dX12_doesColour_1 : decode cX12_doesColour 1 = .ok (.iconst 0, 1) := by decide +kernel
theorem dX12_doesColour_2 : decode cX12_doesColour 2 = .ok (.bipush 9, 2) := by decide +kernel
theorem dX12_doesColour_4 : decode cX12_doesColour 4 = .ok (.invokestatic 64, 3) := by decide +kernel
theorem dX12_doesColour_7 : decode cX12_doesColour 7 = .ok (.ifCond .ne 10, 3) := by decide +kernel
theorem dX12_doesColour_10 : decode cX12_doesColour 10 = .ok (.aload_n 0, 1) := by decide +kernel
theorem dX12_doesColour_11 : decode cX12_doesColour 11 = .ok (.iconst 2, 1) := by decide +kernel
theorem dX12_doesColour_12 : decode cX12_doesColour 12 = .ok (.iconst 0, 1) := by decide +kernel
theorem dX12_doesColour_13 : decode cX12_doesColour 13 = .ok (.invokevirtual 75, 3) := by decide +kernel
theorem dX12_doesColour_16 : decode cX12_doesColour 16 = .ok (.ireturn, 1) := by decide +kernel
theorem dX12_doesColour_17 : decode cX12_doesColour 17 = .ok (.aload_n 0, 1) := by decide +kernel
theorem dX12_doesColour_18 : decode cX12_doesColour 18 = .ok (.getfield 9, 3) := by decide +kernel
theorem dX12_doesColour_21 : decode cX12_doesColour 21 = .ok (.iconst 0, 1) := by decide +kernel
theorem dX12_doesColour_22 : decode cX12_doesColour 22 = .ok (.iaload, 1) := by decide +kernel
theorem dX12_doesColour_23 : decode cX12_doesColour 23 = .ok (.bipush 6, 2) := by decide +kernel
theorem dX12_doesColour_25 : decode cX12_doesColour 25 = .ok (.if_icmp .ne 10, 3) := by decide +kernel
theorem dX12_doesColour_28 : decode cX12_doesColour 28 = .ok (.aload_n 0, 1) := by decide +kernel
theorem dX12_doesColour_29 : decode cX12_doesColour 29 = .ok (.iconst 3, 1) := by decide +kernel
theorem dX12_doesColour_30 : decode cX12_doesColour 30 = .ok (.iconst 0, 1) := by decide +kernel
theorem dX12_doesColour_31 : decode cX12_doesColour 31 = .ok (.invokevirtual 75, 3) := by decide +kernel
theorem dX12_doesColour_34 : decode cX12_doesColour 34 = .ok (.ireturn, 1) := by decide +kernel
theorem dX12_doesColour_35 : decode cX12_doesColour 35 = .ok (.aload_n 0, 1) := by decide +kernel
theorem dX12_doesColour_36 : decode cX12_doesColour 36 = .ok (.getfield 9, 3) := by decide +kernel
theorem dX12_doesColour_39 : decode cX12_doesColour 39 = .ok (.bipush 16, 2) := by decide +kernel
theorem dX12_doesColour_41 : decode cX12_doesColour 41 = .ok (.aload_n 0, 1) := by decide +kernel
theorem dX12_doesColour_42 : decode cX12_doesColour 42 = .ok (.getfield 9, 3) := by decide +kernel
theorem dX12_doesColour_45 : decode cX12_doesColour 45 = .ok (.iconst 0, 1) := by decide +kernel
theorem dX12_doesColour_46 : decode cX12_doesColour 46 = .ok (.iaload, 1) := by decide +kernel
theorem dX12_doesColour_47 : decode cX12_doesColour 47 = .ok (.iadd, 1) := by decide +kernel
theorem dX12_doesColour_48 : decode cX12_doesColour 48 = .ok (.iload_n 1, 1) := by decide +kernel
theorem dX12_doesColour_49 : decode cX12_doesColour 49 = .ok (.iastore, 1) := by decide +kernel
theorem dX12_doesColour_50 : decode cX12_doesColour 50 = .ok (.aload_n 0, 1) := by decide +kernel
theorem dX12_doesColour_51 : decode cX12_doesColour 51 = .ok (.aload_n 0, 1) := by decide +kernel
theorem dX12_doesColour_52 : decode cX12_doesColour 52 = .ok (.getfield 9, 3) := by decide +kernel
theorem dX12_doesColour_55 : decode cX12_doesColour 55 = .ok (.iconst 0, 1) := by decide +kernel
theorem dX12_doesColour_56 : decode cX12_doesColour 56 = .ok (.dup2, 1) := by decide +kernel
theorem dX12_doesColour_57 : decode cX12_doesColour 57 = .ok (.iaload, 1) := by decide +kernel
theorem dX12_doesColour_58 : decode cX12_doesColour 58 = .ok (.dup_x2, 1) := by decide +kernel
theorem dX12_doesColour_59 : decode cX12_doesColour 59 = .ok (.iconst 1, 1) := by decide +kernel
theorem dX12_doesColour_60 : decode cX12_doesColour 60 = .ok (.iadd, 1) := by decide +kernel
theorem dX12_doesColour_61 : decode cX12_doesColour 61 = .ok (.iastore, 1) := by decide +kernel
theorem dX12_doesColour_62 : decode cX12_doesColour 62 = .ok (.invokevirtual 79, 3) := by decide +kernel
theorem dX12_doesColour_65 : decode cX12_doesColour 65 = .ok (.ireturn, 1) := by decide +kernel
theorem dX12_doesPart_0 : decode cX12_doesPart 0 = .ok (.iload_n 1, 1) := by decide +kernel
theorem dX12_doesPart_1 : decode cX12_doesPart 1 = .ok (.iconst 1, 1) := by decide +kernel
theorem dX12_doesPart_2 : decode cX12_doesPart 2 = .ok (.bipush 50, 2) := by decide +kernel
theorem dX12_doesPart_4 : decode cX12_doesPart 4 = .ok (.invokestatic 64, 3) := by decide +kernel
theorem dX12_doesPart_7 : decode cX12_doesPart 7 = .ok (.ifCond .ne 10, 3) := by decide +kernel
theorem dX12_doesPart_10 : decode cX12_doesPart 10 = .ok (.aload_n 0, 1) := by decide +kernel
theorem dX12_doesPart_11 : decode cX12_doesPart 11 = .ok (.iconst 2, 1) := by decide +kernel
theorem dX12_doesPart_12 : decode cX12_doesPart 12 = .ok (.iconst 0, 1) := by decide +kernel
theorem dX12_doesPart_13 : decode cX12_doesPart 13 = .ok (.invokevirtual 75, 3) := by decide +kernel
theorem dX12_doesPart_16 : decode cX12_doesPart 16 = .ok (.ireturn, 1) := by decide +kernel
theorem dX12_doesPart_17 : decode cX12_doesPart 17 = .ok (.aload_n 0, 1) := by decide +kernel
theorem dX12_doesPart_18 : decode cX12_doesPart 18 = .ok (.getfield 9, 3) := by decide +kernel
theorem dX12_doesPart_21 : decode cX12_doesPart 21 = .ok (.iconst 1, 1) := by decide +kernel
theorem dX12_doesPart_22 : decode cX12_doesPart 22 = .ok (.iaload, 1) := by decide +kernel
theorem dX12_doesPart_23 : decode cX12_doesPart 23 = .ok (.bipush 8, 2) := by decide +kernel
theorem dX12_doesPart_25 : decode cX12_doesPart 25 = .ok (.if_icmp .ne 10, 3) := by decide +kernel
theorem dX12_doesPart_28 : decode cX12_doesPart 28 = .ok (.aload_n 0, 1) := by decide +kernel
theorem dX12_doesPart_29 : decode cX12_doesPart 29 = .ok (.iconst 3, 1) := by decide +kernel
theorem dX12_doesPart_30 : decode cX12_doesPart 30 = .ok (.iconst 0, 1) := by decide +kernel
theorem dX12_doesPart_31 : decode cX12_doesPart 31 = .ok (.invokevirtual 75, 3) := by decide +kernel
theorem dX12_doesPart_34 : decode cX12_doesPart 34 = .ok (.ireturn, 1) := by decide +kernel
theorem dX12_doesPart_35 : decode cX12_doesPart 35 = .ok (.aload_n 0, 1) := by decide +kernel
theorem dX12_doesPart_36 : decode cX12_doesPart 36 = .ok (.getfield 9, 3) := by decide +kernel
theorem dX12_doesPart_39 : decode cX12_doesPart 39 = .ok (.bipush 22, 2) := by decide +kernel
theorem dX12_doesPart_41 : decode cX12_doesPart 41 = .ok (.aload_n 0, 1) := by decide +kernel
theorem dX12_doesPart_42 : decode cX12_doesPart 42 = .ok (.getfield 9, 3) := by decide +kernel
theorem dX12_doesPart_45 : decode cX12_doesPart 45 = .ok (.iconst 1, 1) := by decide +kernel
theorem dX12_doesPart_46 : decode cX12_doesPart 46 = .ok (.iaload, 1) := by decide +kernel
theorem dX12_doesPart_47 : decode cX12_doesPart 47 = .ok (.iadd, 1) := by decide +kernel
theorem dX12_doesPart_48 : decode cX12_doesPart 48 = .ok (.iload_n 1, 1) := by decide +kernel
theorem dX12_doesPart_49 : decode cX12_doesPart 49 = .ok (.iastore, 1) := by decide +kernel
theorem dX12_doesPart_50 : decode cX12_doesPart 50 = .ok (.aload_n 0, 1) := by decide +kernel
theorem dX12_doesPart_51 : decode cX12_doesPart 51 = .ok (.aload_n 0, 1) := by decide +kernel
theorem dX12_doesPart_52 : decode cX12_doesPart 52 = .ok (.getfield 9, 3) := by decide +kernel
theorem dX12_doesPart_55 : decode cX12_doesPart 55 = .ok (.iconst 1, 1) := by decide +kernel
theorem dX12_doesPart_56 : decode cX12_doesPart 56 = .ok (.dup2, 1) := by decide +kernel
theorem dX12_doesPart_57 : decode cX12_doesPart 57 = .ok (.iaload, 1) := by decide +kernel
theorem dX12_doesPart_58 : decode cX12_doesPart 58 = .ok (.dup_x2, 1) := by decide +kernel
theorem dX12_doesPart_59 : decode cX12_doesPart 59 = .ok (.iconst 1, 1) := by decide +kernel
theorem dX12_doesPart_60 : decode cX12_doesPart 60 = .ok (.iadd, 1) := by decide +kernel
theorem dX12_doesPart_61 : decode cX12_doesPart 61 = .ok (.iastore, 1) := by decide +kernel
theorem dX12_doesPart_62 : decode cX12_doesPart 62 = .ok (.invokevirtual 79, 3) := by decide +kernel
theorem dX12_doesPart_65 : decode cX12_doesPart 65 = .ok (.ireturn, 1) := by decide +kernel
theorem dX12_doesFamily_0 : decode cX12_doesFamily 0 = .ok (.aload_n 0, 1) := by decide +kernel
theorem dX12_doesFamily_1 : decode cX12_doesFamily 1 = .ok (.getfield 36, 3) := by decide +kernel
theorem dX12_doesFamily_4 : decode cX12_doesFamily 4 = .ok (.iconst 2, 1) := by decide +kernel
theorem dX12_doesFamily_5 : decode cX12_doesFamily 5 = .ok (.iaload, 1) := by decide +kernel
theorem dX12_doesFamily_6 : decode cX12_doesFamily 6 = .ok (.istore_n 1, 1) := by decide +kernel
theorem dX12_doesFamily_7 : decode cX12_doesFamily 7 = .ok (.aload_n 0, 1) := by decide +kernel
theorem dX12_doesFamily_8 : decode cX12_doesFamily 8 = .ok (.getfield 36, 3) := by decide +kernel
theorem dX12_doesFamily_11 : decode cX12_doesFamily 11 = .ok (.iconst 0, 1) := by decide +kernel
theorem dX12_doesFamily_12 : decode cX12_doesFamily 12 = .ok (.iaload, 1) := by decide +kernel
theorem dX12_doesFamily_13 : decode cX12_doesFamily 13 = .ok (.iconst 1, 1) := by decide +kernel
theorem dX12_doesFamily_14 : decode cX12_doesFamily 14 = .ok (.bipush 99, 2) := by decide +kernel
theorem dX12_doesFamily_16 : decode cX12_doesFamily 16 = .ok (.invokestatic 64, 3) := by decide +kernel
theorem dX12_doesFamily_19 : decode cX12_doesFamily 19 = .ok (.ifCond .eq 23, 3) := by decide +kernel
theorem dX12_doesFamily_22 : decode cX12_doesFamily 22 = .ok (.aload_n 0, 1) := by decide +kernel
theorem dX12_doesFamily_23 : decode cX12_doesFamily 23 = .ok (.getfield 36, 3) := by decide +kernel
theorem dX12_doesFamily_26 : decode cX12_doesFamily 26 = .ok (.iconst 1, 1) := by decide +kernel
theorem dX12_doesFamily_27 : decode cX12_doesFamily 27 = .ok (.iaload, 1) := by decide +kernel
theorem dX12_doesFamily_28 : decode cX12_doesFamily 28 = .ok (.iconst 1, 1) := by decide +kernel
theorem dX12_doesFamily_29 : decode cX12_doesFamily 29 = .ok (.sipush 999, 3) := by decide +kernel
theorem dX12_doesFamily_32 : decode cX12_doesFamily 32 = .ok (.invokestatic 64, 3) := by decide +kernel
theorem dX12_doesFamily_35 : decode cX12_doesFamily 35 = .ok (.ifCond .eq 7, 3) := by decide +kernel
theorem dX12_doesFamily_38 : decode cX12_doesFamily 38 = .ok (.iconst 1, 1) := by decide +kernel
theorem dX12_doesFamily_39 : decode cX12_doesFamily 39 = .ok (.goto 4, 3) := by decide +kernel
theorem dX12_doesFamily_42 : decode cX12_doesFamily 42 = .ok (.iconst 0, 1) := by decide +kernel
theorem dX12_doesFamily_43 : decode cX12_doesFamily 43 = .ok (.istore_n 2, 1) := by decide +kernel
theorem dX12_doesFamily_44 : decode cX12_doesFamily 44 = .ok (.iconst 0, 1) := by decide +kernel
theorem dX12_doesFamily_45 : decode cX12_doesFamily 45 = .ok (.istore_n 3, 1) := by decide +kernel
theorem dX12_doesFamily_46 : decode cX12_doesFamily 46 = .ok (.iload_n 3, 1) := by decide +kernel
theorem dX12_doesFamily_47 : decode cX12_doesFamily 47 = .ok (.iload_n 1, 1) := by decide +kernel
theorem dX12_doesFamily_48 : decode cX12_doesFamily 48 = .ok (.if_icmp .ge 27, 3) := by decide +kernel
theorem dX12_doesFamily_51 : decode cX12_doesFamily 51 = .ok (.iload_n 2, 1) := by decide +kernel
theorem dX12_doesFamily_52 : decode cX12_doesFamily 52 = .ok (.aload_n 0, 1) := by decide +kernel
theorem dX12_doesFamily_53 : decode cX12_doesFamily 53 = .ok (.getfield 36, 3) := by decide +kernel
theorem dX12_doesFamily_56 : decode cX12_doesFamily 56 = .ok (.bipush 6, 2) := by decide +kernel
theorem dX12_doesFamily_58 : decode cX12_doesFamily 58 = .ok (.iload_n 3, 1) := by decide +kernel
theorem dX12_doesFamily_59 : decode cX12_doesFamily 59 = .ok (.iadd, 1) := by decide +kernel
theorem dX12_doesFamily_60 : decode cX12_doesFamily 60 = .ok (.iaload, 1) := by decide +kernel
theorem dX12_doesFamily_61 : decode cX12_doesFamily 61 = .ok (.iconst 1, 1) := by decide +kernel
theorem dX12_doesFamily_62 : decode cX12_doesFamily 62 = .ok (.bipush 9, 2) := by decide +kernel
theorem dX12_doesFamily_64 : decode cX12_doesFamily 64 = .ok (.invokestatic 64, 3) := by decide +kernel
theorem dX12_doesFamily_67 : decode cX12_doesFamily 67 = .ok (.iand, 1) := by decide +kernel
theorem dX12_doesFamily_68 : decode cX12_doesFamily 68 = .ok (.istore_n 2, 1) := by decide +kernel
theorem dX12_doesFamily_69 : decode cX12_doesFamily 69 = .ok (.iinc 3 1, 3) := by decide +kernel
theorem dX12_doesFamily_72 : decode cX12_doesFamily 72 = .ok (.goto (-26), 3) := by decide +kernel
theorem dX12_doesFamily_75 : decode cX12_doesFamily 75 = .ok (.iload_n 2, 1) := by decide +kernel
theorem dX12_doesFamily_76 : decode cX12_doesFamily 76 = .ok (.ifCond .ne 10, 3) := by decide +kernel
theorem dX12_doesFamily_79 : decode cX12_doesFamily 79 = .ok (.aload_n 0, 1) := by decide +kernel
theorem dX12_doesFamily_80 : decode cX12_doesFamily 80 = .ok (.iconst 2, 1) := by decide +kernel
theorem dX12_doesFamily_81 : decode cX12_doesFamily 81 = .ok (.iconst 0, 1) := by decide +kernel
theorem dX12_doesFamily_82 : decode cX12_doesFamily 82 = .ok (.invokevirtual 75, 3) := by decide +kernel
theorem dX12_doesFamily_85 : decode cX12_doesFamily 85 = .ok (.ireturn, 1) := by decide +kernel
theorem dX12_doesFamily_86 : decode cX12_doesFamily 86 = .ok (.iconst 0, 1) := by decide +kernel
theorem dX12_doesFamily_87 : decode cX12_doesFamily 87 = .ok (.istore_n 3, 1) := by decide +kernel
theorem dX12_doesFamily_88 : decode cX12_doesFamily 88 = .ok (.iload_n 3, 1) := by decide +kernel
theorem dX12_doesFamily_89 : decode cX12_doesFamily 89 = .ok (.iload_n 1, 1) := by decide +kernel
theorem dX12_doesFamily_90 : decode cX12_doesFamily 90 = .ok (.if_icmp .ge 24, 3) := by decide +kernel
theorem dX12_doesFamily_93 : decode cX12_doesFamily 93 = .ok (.iload_n 2, 1) := by decide +kernel
theorem dX12_doesFamily_94 : decode cX12_doesFamily 94 = .ok (.aload_n 0, 1) := by decide +kernel
theorem dX12_doesFamily_95 : decode cX12_doesFamily 95 = .ok (.aload_n 0, 1) := by decide +kernel
theorem dX12_doesFamily_96 : decode cX12_doesFamily 96 = .ok (.getfield 36, 3) := by decide +kernel
theorem dX12_doesFamily_99 : decode cX12_doesFamily 99 = .ok (.iconst 3, 1) := by decide +kernel
theorem dX12_doesFamily_100 : decode cX12_doesFamily 100 = .ok (.iload_n 3, 1) := by decide +kernel
theorem dX12_doesFamily_101 : decode cX12_doesFamily 101 = .ok (.iadd, 1) := by decide +kernel
theorem dX12_doesFamily_102 : decode cX12_doesFamily 102 = .ok (.iaload, 1) := by decide +kernel
theorem dX12_doesFamily_103 : decode cX12_doesFamily 103 = .ok (.invokevirtual 83, 3) := by decide +kernel
theorem dX12_doesFamily_106 : decode cX12_doesFamily 106 = .ok (.iand, 1) := by decide +kernel
theorem dX12_doesFamily_107 : decode cX12_doesFamily 107 = .ok (.istore_n 2, 1) := by decide +kernel
theorem dX12_doesFamily_108 : decode cX12_doesFamily 108 = .ok (.iinc 3 1, 3) := by decide +kernel
theorem dX12_doesFamily_111 : decode cX12_doesFamily 111 = .ok (.goto (-23), 3) := by decide +kernel
theorem dX12_doesFamily_114 : decode cX12_doesFamily 114 = .ok (.iload_n 2, 1) := by decide +kernel
theorem dX12_doesFamily_115 : decode cX12_doesFamily 115 = .ok (.ifCond .ne 10, 3) := by decide +kernel
theorem dX12_doesFamily_118 : decode cX12_doesFamily 118 = .ok (.aload_n 0, 1) := by decide +kernel
theorem dX12_doesFamily_119 : decode cX12_doesFamily 119 = .ok (.iconst 1, 1) := by decide +kernel
theorem dX12_doesFamily_120 : decode cX12_doesFamily 120 = .ok (.iconst 0, 1) := by decide +kernel
theorem dX12_doesFamily_121 : decode cX12_doesFamily 121 = .ok (.invokevirtual 75, 3) := by decide +kernel
theorem dX12_doesFamily_124 : decode cX12_doesFamily 124 = .ok (.ireturn, 1) := by decide +kernel
theorem dX12_doesFamily_125 : decode cX12_doesFamily 125 = .ok (.iconst 0, 1) := by decide +kernel
theorem dX12_doesFamily_126 : decode cX12_doesFamily 126 = .ok (.istore_n 3, 1) := by decide +kernel
theorem dX12_doesFamily_127 : decode cX12_doesFamily 127 = .ok (.iload_n 3, 1) := by decide +kernel
theorem dX12_doesFamily_128 : decode cX12_doesFamily 128 = .ok (.iload_n 1, 1) := by decide +kernel
theorem dX12_doesFamily_129 : decode cX12_doesFamily 129 = .ok (.if_icmp .ge 59, 3) := by decide +kernel
theorem dX12_doesFamily_132 : decode cX12_doesFamily 132 = .ok (.iconst 0, 1) := by decide +kernel
theorem dX12_doesFamily_133 : decode cX12_doesFamily 133 = .ok (.istore 4, 2) := by decide +kernel
theorem dX12_doesFamily_135 : decode cX12_doesFamily 135 = .ok (.iload 4, 2) := by decide +kernel
theorem dX12_doesFamily_137 : decode cX12_doesFamily 137 = .ok (.iload_n 3, 1) := by decide +kernel
theorem dX12_doesFamily_138 : decode cX12_doesFamily 138 = .ok (.if_icmp .ge 44, 3) := by decide +kernel
theorem dX12_doesFamily_141 : decode cX12_doesFamily 141 = .ok (.aload_n 0, 1) := by decide +kernel
theorem dX12_doesFamily_142 : decode cX12_doesFamily 142 = .ok (.getfield 36, 3) := by decide +kernel
theorem dX12_doesFamily_145 : decode cX12_doesFamily 145 = .ok (.iconst 3, 1) := by decide +kernel
theorem dX12_doesFamily_146 : decode cX12_doesFamily 146 = .ok (.iload_n 3, 1) := by decide +kernel
theorem dX12_doesFamily_147 : decode cX12_doesFamily 147 = .ok (.iadd, 1) := by decide +kernel
theorem dX12_doesFamily_148 : decode cX12_doesFamily 148 = .ok (.iaload, 1) := by decide +kernel
theorem dX12_doesFamily_149 : decode cX12_doesFamily 149 = .ok (.aload_n 0, 1) := by decide +kernel
theorem dX12_doesFamily_150 : decode cX12_doesFamily 150 = .ok (.getfield 36, 3) := by decide +kernel
theorem dX12_doesFamily_153 : decode cX12_doesFamily 153 = .ok (.iconst 3, 1) := by decide +kernel
theorem dX12_doesFamily_154 : decode cX12_doesFamily 154 = .ok (.iload 4, 2) := by decide +kernel
theorem dX12_doesFamily_156 : decode cX12_doesFamily 156 = .ok (.iadd, 1) := by decide +kernel
theorem dX12_doesFamily_157 : decode cX12_doesFamily 157 = .ok (.iaload, 1) := by decide +kernel
theorem dX12_doesFamily_158 : decode cX12_doesFamily 158 = .ok (.if_icmp .ne 18, 3) := by decide +kernel
theorem dX12_doesFamily_161 : decode cX12_doesFamily 161 = .ok (.aload_n 0, 1) := by decide +kernel
theorem dX12_doesFamily_162 : decode cX12_doesFamily 162 = .ok (.bipush 14, 2) := by decide +kernel
theorem dX12_doesFamily_164 : decode cX12_doesFamily 164 = .ok (.aload_n 0, 1) := by decide +kernel
theorem dX12_doesFamily_165 : decode cX12_doesFamily 165 = .ok (.getfield 36, 3) := by decide +kernel
theorem dX12_doesFamily_168 : decode cX12_doesFamily 168 = .ok (.iconst 3, 1) := by decide +kernel
theorem dX12_doesFamily_169 : decode cX12_doesFamily 169 = .ok (.iload_n 3, 1) := by decide +kernel
theorem dX12_doesFamily_170 : decode cX12_doesFamily 170 = .ok (.iadd, 1) := by decide +kernel
theorem dX12_doesFamily_171 : decode cX12_doesFamily 171 = .ok (.iaload, 1) := by decide +kernel
theorem dX12_doesFamily_172 : decode cX12_doesFamily 172 = .ok (.invokevirtual 75, 3) := by decide +kernel
theorem dX12_doesFamily_175 : decode cX12_doesFamily 175 = .ok (.ireturn, 1) := by decide +kernel
theorem dX12_doesFamily_176 : decode cX12_doesFamily 176 = .ok (.iinc 4 1, 3) := by decide +kernel
theorem dX12_doesFamily_179 : decode cX12_doesFamily 179 = .ok (.goto (-44), 3) := by decide +kernel
theorem dX12_doesFamily_182 : decode cX12_doesFamily 182 = .ok (.iinc 3 1, 3) := by decide +kernel
theorem dX12_doesFamily_185 : decode cX12_doesFamily 185 = .ok (.goto (-58), 3) := by decide +kernel
theorem dX12_doesFamily_188 : decode cX12_doesFamily 188 = .ok (.aload_n 0, 1) := by decide +kernel
theorem dX12_doesFamily_189 : decode cX12_doesFamily 189 = .ok (.getfield 9, 3) := by decide +kernel
theorem dX12_doesFamily_192 : decode cX12_doesFamily 192 = .ok (.iconst 2, 1) := by decide +kernel
theorem dX12_doesFamily_193 : decode cX12_doesFamily 193 = .ok (.iaload, 1) := by decide +kernel
theorem dX12_doesFamily_194 : decode cX12_doesFamily 194 = .ok (.bipush 6, 2) := by decide +kernel
theorem dX12_doesFamily_196 : decode cX12_doesFamily 196 = .ok (.if_icmp .ne 10, 3) := by decide +kernel
theorem dX12_doesFamily_199 : decode cX12_doesFamily 199 = .ok (.aload_n 0, 1) := by decide +kernel
theorem dX12_doesFamily_200 : decode cX12_doesFamily 200 = .ok (.iconst 3, 1) := by decide +kernel
theorem dX12_doesFamily_201 : decode cX12_doesFamily 201 = .ok (.iconst 0, 1) := by decide +kernel
theorem dX12_doesFamily_202 : decode cX12_doesFamily 202 = .ok (.invokevirtual 75, 3) := by decide +kernel
theorem dX12_doesFamily_205 : decode cX12_doesFamily 205 = .ok (.ireturn, 1) := by decide +kernel
theorem dX12_doesFamily_206 : decode cX12_doesFamily 206 = .ok (.iconst 0, 1) := by decide +kernel
theorem dX12_doesFamily_207 : decode cX12_doesFamily 207 = .ok (.istore_n 3, 1) := by decide +kernel
theorem dX12_doesFamily_208 : decode cX12_doesFamily 208 = .ok (.iload_n 3, 1) := by decide +kernel
theorem dX12_doesFamily_209 : decode cX12_doesFamily 209 = .ok (.bipush 9, 2) := by decide +kernel
theorem dX12_doesFamily_211 : decode cX12_doesFamily 211 = .ok (.if_icmp .ge 34, 3) := by decide +kernel
theorem dX12_doesFamily_214 : decode cX12_doesFamily 214 = .ok (.aload_n 0, 1) := by decide +kernel
theorem dX12_doesFamily_215 : decode cX12_doesFamily 215 = .ok (.getfield 9, 3) := by decide +kernel
theorem dX12_doesFamily_218 : decode cX12_doesFamily 218 = .ok (.bipush 46, 2) := by decide +kernel
theorem dX12_doesFamily_220 : decode cX12_doesFamily 220 = .ok (.bipush 9, 2) := by decide +kernel
theorem dX12_doesFamily_222 : decode cX12_doesFamily 222 = .ok (.aload_n 0, 1) := by decide +kernel
theorem dX12_doesFamily_223 : decode cX12_doesFamily 223 = .ok (.getfield 9, 3) := by decide +kernel
theorem dX12_doesFamily_226 : decode cX12_doesFamily 226 = .ok (.iconst 2, 1) := by decide +kernel
theorem dX12_doesFamily_227 : decode cX12_doesFamily 227 = .ok (.iaload, 1) := by decide +kernel
theorem dX12_doesFamily_228 : decode cX12_doesFamily 228 = .ok (.imul, 1) := by decide +kernel
theorem dX12_doesFamily_229 : decode cX12_doesFamily 229 = .ok (.iadd, 1) := by decide +kernel
theorem dX12_doesFamily_230 : decode cX12_doesFamily 230 = .ok (.iload_n 3, 1) := by decide +kernel
theorem dX12_doesFamily_231 : decode cX12_doesFamily 231 = .ok (.iadd, 1) := by decide +kernel
theorem dX12_doesFamily_232 : decode cX12_doesFamily 232 = .ok (.aload_n 0, 1) := by decide +kernel
theorem dX12_doesFamily_233 : decode cX12_doesFamily 233 = .ok (.getfield 36, 3) := by decide +kernel
theorem dX12_doesFamily_236 : decode cX12_doesFamily 236 = .ok (.iload_n 3, 1) := by decide +kernel
theorem dX12_doesFamily_237 : decode cX12_doesFamily 237 = .ok (.iaload, 1) := by decide +kernel
theorem dX12_doesFamily_238 : decode cX12_doesFamily 238 = .ok (.iastore, 1) := by decide +kernel
theorem dX12_doesFamily_239 : decode cX12_doesFamily 239 = .ok (.iinc 3 1, 3) := by decide +kernel
theorem dX12_doesFamily_242 : decode cX12_doesFamily 242 = .ok (.goto (-34), 3) := by decide +kernel
theorem dX12_doesFamily_245 : decode cX12_doesFamily 245 = .ok (.aload_n 0, 1) := by decide +kernel
theorem dX12_doesFamily_246 : decode cX12_doesFamily 246 = .ok (.aload_n 0, 1) := by decide +kernel
theorem dX12_doesFamily_247 : decode cX12_doesFamily 247 = .ok (.getfield 9, 3) := by decide +kernel
theorem dX12_doesFamily_250 : decode cX12_doesFamily 250 = .ok (.iconst 2, 1) := by decide +kernel
theorem dX12_doesFamily_251 : decode cX12_doesFamily 251 = .ok (.dup2, 1) := by decide +kernel
theorem dX12_doesFamily_252 : decode cX12_doesFamily 252 = .ok (.iaload, 1) := by decide +kernel
theorem dX12_doesFamily_253 : decode cX12_doesFamily 253 = .ok (.dup_x2, 1) := by decide +kernel
theorem dX12_doesFamily_254 : decode cX12_doesFamily 254 = .ok (.iconst 1, 1) := by decide +kernel
theorem dX12_doesFamily_255 : decode cX12_doesFamily 255 = .ok (.iadd, 1) := by decide +kernel
theorem dX12_doesFamily_256 : decode cX12_doesFamily 256 = .ok (.iastore, 1) := by decide +kernel
theorem dX12_doesFamily_257 : decode cX12_doesFamily 257 = .ok (.invokevirtual 79, 3) := by decide +kernel
theorem dX12_doesFamily_260 : decode cX12_doesFamily 260 = .ok (.ireturn, 1) := by decide +kernel
theorem dX12_doesMount_0 : decode cX12_doesMount 0 = .ok (.aload_n 0, 1) := by decide +kernel
theorem dX12_doesMount_1 : decode cX12_doesMount 1 = .ok (.iload_n 1, 1) := by decide +kernel
theorem dX12_doesMount_2 : decode cX12_doesMount 2 = .ok (.invokevirtual 86, 3) := by decide +kernel
theorem dX12_doesMount_5 : decode cX12_doesMount 5 = .ok (.ifCond .ne 10, 3) := by decide +kernel
theorem dX12_doesMount_8 : decode cX12_doesMount 8 = .ok (.aload_n 0, 1) := by decide +kernel
theorem dX12_doesMount_9 : decode cX12_doesMount 9 = .ok (.iconst 1, 1) := by decide +kernel
theorem dX12_doesMount_10 : decode cX12_doesMount 10 = .ok (.iconst 0, 1) := by decide +kernel
theorem dX12_doesMount_11 : decode cX12_doesMount 11 = .ok (.invokevirtual 75, 3) := by decide +kernel
theorem dX12_doesMount_14 : decode cX12_doesMount 14 = .ok (.ireturn, 1) := by decide +kernel
theorem dX12_doesMount_15 : decode cX12_doesMount 15 = .ok (.aload_n 0, 1) := by decide +kernel
theorem dX12_doesMount_16 : decode cX12_doesMount 16 = .ok (.getfield 9, 3) := by decide +kernel
theorem dX12_doesMount_19 : decode cX12_doesMount 19 = .ok (.iconst 4, 1) := by decide +kernel
theorem dX12_doesMount_20 : decode cX12_doesMount 20 = .ok (.iaload, 1) := by decide +kernel
theorem dX12_doesMount_21 : decode cX12_doesMount 21 = .ok (.iload_n 1, 1) := by decide +kernel
theorem dX12_doesMount_22 : decode cX12_doesMount 22 = .ok (.if_icmp .ne 10, 3) := by decide +kernel
theorem dX12_doesMount_25 : decode cX12_doesMount 25 = .ok (.aload_n 0, 1) := by decide +kernel
theorem dX12_doesMount_26 : decode cX12_doesMount 26 = .ok (.iconst 4, 1) := by decide +kernel
theorem dX12_doesMount_27 : decode cX12_doesMount 27 = .ok (.iconst 0, 1) := by decide +kernel
theorem dX12_doesMount_28 : decode cX12_doesMount 28 = .ok (.invokevirtual 75, 3) := by decide +kernel
theorem dX12_doesMount_31 : decode cX12_doesMount 31 = .ok (.ireturn, 1) := by decide +kernel
theorem dX12_doesMount_32 : decode cX12_doesMount 32 = .ok (.aload_n 0, 1) := by decide +kernel
theorem dX12_doesMount_33 : decode cX12_doesMount 33 = .ok (.getfield 9, 3) := by decide +kernel
theorem dX12_doesMount_36 : decode cX12_doesMount 36 = .ok (.iconst 4, 1) := by decide +kernel
theorem dX12_doesMount_37 : decode cX12_doesMount 37 = .ok (.iload_n 1, 1) := by decide +kernel
theorem dX12_doesMount_38 : decode cX12_doesMount 38 = .ok (.iastore, 1) := by decide +kernel
theorem dX12_doesMount_39 : decode cX12_doesMount 39 = .ok (.aload_n 0, 1) := by decide +kernel
theorem dX12_doesMount_40 : decode cX12_doesMount 40 = .ok (.aload_n 0, 1) := by decide +kernel
theorem dX12_doesMount_41 : decode cX12_doesMount 41 = .ok (.aload_n 0, 1) := by decide +kernel
theorem dX12_doesMount_42 : decode cX12_doesMount 42 = .ok (.getfield 9, 3) := by decide +kernel
theorem dX12_doesMount_45 : decode cX12_doesMount 45 = .ok (.bipush 15, 2) := by decide +kernel
theorem dX12_doesMount_47 : decode cX12_doesMount 47 = .ok (.iaload, 1) := by decide +kernel
theorem dX12_doesMount_48 : decode cX12_doesMount 48 = .ok (.invokevirtual 89, 3) := by decide +kernel
theorem dX12_doesMount_51 : decode cX12_doesMount 51 = .ok (.invokevirtual 79, 3) := by decide +kernel
theorem dX12_doesMount_54 : decode cX12_doesMount 54 = .ok (.ireturn, 1) := by decide +kernel
theorem dX12_doesLoad_0 : decode cX12_doesLoad 0 = .ok (.iload_n 1, 1) := by decide +kernel
theorem dX12_doesLoad_1 : decode cX12_doesLoad 1 = .ok (.invokestatic 92, 3) := by decide +kernel
theorem dX12_doesLoad_4 : decode cX12_doesLoad 4 = .ok (.ifCond .eq 11, 3) := by decide +kernel
theorem dX12_doesLoad_7 : decode cX12_doesLoad 7 = .ok (.aload_n 0, 1) := by decide +kernel
theorem dX12_doesLoad_8 : decode cX12_doesLoad 8 = .ok (.iload_n 2, 1) := by decide +kernel
theorem dX12_doesLoad_9 : decode cX12_doesLoad 9 = .ok (.invokevirtual 95, 3) := by decide +kernel
theorem dX12_doesLoad_12 : decode cX12_doesLoad 12 = .ok (.ifCond .ne 10, 3) := by decide +kernel
theorem dX12_doesLoad_15 : decode cX12_doesLoad 15 = .ok (.aload_n 0, 1) := by decide +kernel
theorem dX12_doesLoad_16 : decode cX12_doesLoad 16 = .ok (.iconst 1, 1) := by decide +kernel
theorem dX12_doesLoad_17 : decode cX12_doesLoad 17 = .ok (.iconst 0, 1) := by decide +kernel
theorem dX12_doesLoad_18 : decode cX12_doesLoad 18 = .ok (.invokevirtual 75, 3) := by decide +kernel
theorem dX12_doesLoad_21 : decode cX12_doesLoad 21 = .ok (.ireturn, 1) := by decide +kernel
theorem dX12_doesLoad_22 : decode cX12_doesLoad 22 = .ok (.iload_n 3, 1) := by decide +kernel
theorem dX12_doesLoad_23 : decode cX12_doesLoad 23 = .ok (.iconst 1, 1) := by decide +kernel
theorem dX12_doesLoad_24 : decode cX12_doesLoad 24 = .ok (.ldc 98, 2) := by decide +kernel
theorem dX12_doesLoad_26 : decode cX12_doesLoad 26 = .ok (.invokestatic 64, 3) := by decide +kernel
theorem dX12_doesLoad_29 : decode cX12_doesLoad 29 = .ok (.ifCond .ne 10, 3) := by decide +kernel
theorem dX12_doesLoad_32 : decode cX12_doesLoad 32 = .ok (.aload_n 0, 1) := by decide +kernel
theorem dX12_doesLoad_33 : decode cX12_doesLoad 33 = .ok (.iconst 2, 1) := by decide +kernel
theorem dX12_doesLoad_34 : decode cX12_doesLoad 34 = .ok (.iconst 0, 1) := by decide +kernel
theorem dX12_doesLoad_35 : decode cX12_doesLoad 35 = .ok (.invokevirtual 75, 3) := by decide +kernel
theorem dX12_doesLoad_38 : decode cX12_doesLoad 38 = .ok (.ireturn, 1) := by decide +kernel
theorem dX12_doesLoad_39 : decode cX12_doesLoad 39 = .ok (.bipush 100, 2) := by decide +kernel
theorem dX12_doesLoad_41 : decode cX12_doesLoad 41 = .ok (.iconst 3, 1) := by decide +kernel
theorem dX12_doesLoad_42 : decode cX12_doesLoad 42 = .ok (.iload_n 1, 1) := by decide +kernel
theorem dX12_doesLoad_43 : decode cX12_doesLoad 43 = .ok (.imul, 1) := by decide +kernel
theorem dX12_doesLoad_44 : decode cX12_doesLoad 44 = .ok (.iadd, 1) := by decide +kernel
theorem dX12_doesLoad_45 : decode cX12_doesLoad 45 = .ok (.istore 4, 2) := by decide +kernel
theorem dX12_doesLoad_47 : decode cX12_doesLoad 47 = .ok (.aload_n 0, 1) := by decide +kernel
theorem dX12_doesLoad_48 : decode cX12_doesLoad 48 = .ok (.getfield 9, 3) := by decide +kernel
theorem dX12_doesLoad_51 : decode cX12_doesLoad 51 = .ok (.iload 4, 2) := by decide +kernel
theorem dX12_doesLoad_53 : decode cX12_doesLoad 53 = .ok (.iaload, 1) := by decide +kernel
theorem dX12_doesLoad_54 : decode cX12_doesLoad 54 = .ok (.ifCond .lt 28, 3) := by decide +kernel
theorem dX12_doesLoad_57 : decode cX12_doesLoad 57 = .ok (.aload_n 0, 1) := by decide +kernel
theorem dX12_doesLoad_58 : decode cX12_doesLoad 58 = .ok (.getfield 9, 3) := by decide +kernel
theorem dX12_doesLoad_61 : decode cX12_doesLoad 61 = .ok (.iload 4, 2) := by decide +kernel
theorem dX12_doesLoad_63 : decode cX12_doesLoad 63 = .ok (.iaload, 1) := by decide +kernel
theorem dX12_doesLoad_64 : decode cX12_doesLoad 64 = .ok (.iload_n 2, 1) := by decide +kernel
theorem dX12_doesLoad_65 : decode cX12_doesLoad 65 = .ok (.if_icmp .eq 17, 3) := by decide +kernel
theorem dX12_doesLoad_68 : decode cX12_doesLoad 68 = .ok (.aload_n 0, 1) := by decide +kernel
theorem dX12_doesLoad_69 : decode cX12_doesLoad 69 = .ok (.bipush 6, 2) := by decide +kernel
theorem dX12_doesLoad_71 : decode cX12_doesLoad 71 = .ok (.aload_n 0, 1) := by decide +kernel
theorem dX12_doesLoad_72 : decode cX12_doesLoad 72 = .ok (.getfield 9, 3) := by decide +kernel
theorem dX12_doesLoad_75 : decode cX12_doesLoad 75 = .ok (.iload 4, 2) := by decide +kernel
theorem dX12_doesLoad_77 : decode cX12_doesLoad 77 = .ok (.iaload, 1) := by decide +kernel
theorem dX12_doesLoad_78 : decode cX12_doesLoad 78 = .ok (.invokevirtual 75, 3) := by decide +kernel
theorem dX12_doesLoad_81 : decode cX12_doesLoad 81 = .ok (.ireturn, 1) := by decide +kernel
theorem dX12_doesLoad_82 : decode cX12_doesLoad 82 = .ok (.aload_n 0, 1) := by decide +kernel
theorem dX12_doesLoad_83 : decode cX12_doesLoad 83 = .ok (.getfield 9, 3) := by decide +kernel
theorem dX12_doesLoad_86 : decode cX12_doesLoad 86 = .ok (.iload 4, 2) := by decide +kernel
theorem dX12_doesLoad_88 : decode cX12_doesLoad 88 = .ok (.iconst 1, 1) := by decide +kernel
theorem dX12_doesLoad_89 : decode cX12_doesLoad 89 = .ok (.iadd, 1) := by decide +kernel
theorem dX12_doesLoad_90 : decode cX12_doesLoad 90 = .ok (.iaload, 1) := by decide +kernel
theorem dX12_doesLoad_91 : decode cX12_doesLoad 91 = .ok (.iload_n 3, 1) := by decide +kernel
theorem dX12_doesLoad_92 : decode cX12_doesLoad 92 = .ok (.iadd, 1) := by decide +kernel
theorem dX12_doesLoad_93 : decode cX12_doesLoad 93 = .ok (.ldc 98, 2) := by decide +kernel
theorem dX12_doesLoad_95 : decode cX12_doesLoad 95 = .ok (.if_icmp .le 11, 3) := by decide +kernel
theorem dX12_doesLoad_98 : decode cX12_doesLoad 98 = .ok (.aload_n 0, 1) := by decide +kernel
theorem dX12_doesLoad_99 : decode cX12_doesLoad 99 = .ok (.bipush 7, 2) := by decide +kernel
theorem dX12_doesLoad_101 : decode cX12_doesLoad 101 = .ok (.iconst 0, 1) := by decide +kernel
theorem dX12_doesLoad_102 : decode cX12_doesLoad 102 = .ok (.invokevirtual 75, 3) := by decide +kernel
theorem dX12_doesLoad_105 : decode cX12_doesLoad 105 = .ok (.ireturn, 1) := by decide +kernel
theorem dX12_doesLoad_106 : decode cX12_doesLoad 106 = .ok (.aload_n 0, 1) := by decide +kernel
theorem dX12_doesLoad_107 : decode cX12_doesLoad 107 = .ok (.getfield 9, 3) := by decide +kernel
theorem dX12_doesLoad_110 : decode cX12_doesLoad 110 = .ok (.iload 4, 2) := by decide +kernel
theorem dX12_doesLoad_112 : decode cX12_doesLoad 112 = .ok (.iload_n 2, 1) := by decide +kernel
theorem dX12_doesLoad_113 : decode cX12_doesLoad 113 = .ok (.iastore, 1) := by decide +kernel
theorem dX12_doesLoad_114 : decode cX12_doesLoad 114 = .ok (.aload_n 0, 1) := by decide +kernel
theorem dX12_doesLoad_115 : decode cX12_doesLoad 115 = .ok (.getfield 9, 3) := by decide +kernel
theorem dX12_doesLoad_118 : decode cX12_doesLoad 118 = .ok (.iload 4, 2) := by decide +kernel
theorem dX12_doesLoad_120 : decode cX12_doesLoad 120 = .ok (.iconst 1, 1) := by decide +kernel
theorem dX12_doesLoad_121 : decode cX12_doesLoad 121 = .ok (.iadd, 1) := by decide +kernel
theorem dX12_doesLoad_122 : decode cX12_doesLoad 122 = .ok (.dup2, 1) := by decide +kernel
theorem dX12_doesLoad_123 : decode cX12_doesLoad 123 = .ok (.iaload, 1) := by decide +kernel
theorem dX12_doesLoad_124 : decode cX12_doesLoad 124 = .ok (.iload_n 3, 1) := by decide +kernel
theorem dX12_doesLoad_125 : decode cX12_doesLoad 125 = .ok (.iadd, 1) := by decide +kernel
theorem dX12_doesLoad_126 : decode cX12_doesLoad 126 = .ok (.iastore, 1) := by decide +kernel
theorem dX12_doesLoad_127 : decode cX12_doesLoad 127 = .ok (.aload_n 0, 1) := by decide +kernel
theorem dX12_doesLoad_128 : decode cX12_doesLoad 128 = .ok (.getfield 9, 3) := by decide +kernel
theorem dX12_doesLoad_131 : decode cX12_doesLoad 131 = .ok (.iload 4, 2) := by decide +kernel
theorem dX12_doesLoad_133 : decode cX12_doesLoad 133 = .ok (.iconst 2, 1) := by decide +kernel
theorem dX12_doesLoad_134 : decode cX12_doesLoad 134 = .ok (.iadd, 1) := by decide +kernel
theorem dX12_doesLoad_135 : decode cX12_doesLoad 135 = .ok (.iconst 0, 1) := by decide +kernel
theorem dX12_doesLoad_136 : decode cX12_doesLoad 136 = .ok (.iastore, 1) := by decide +kernel
theorem dX12_doesLoad_137 : decode cX12_doesLoad 137 = .ok (.aload_n 0, 1) := by decide +kernel
theorem dX12_doesLoad_138 : decode cX12_doesLoad 138 = .ok (.aload_n 0, 1) := by decide +kernel
theorem dX12_doesLoad_139 : decode cX12_doesLoad 139 = .ok (.getfield 9, 3) := by decide +kernel
theorem dX12_doesLoad_142 : decode cX12_doesLoad 142 = .ok (.iload 4, 2) := by decide +kernel
theorem dX12_doesLoad_144 : decode cX12_doesLoad 144 = .ok (.iconst 1, 1) := by decide +kernel
theorem dX12_doesLoad_145 : decode cX12_doesLoad 145 = .ok (.iadd, 1) := by decide +kernel
theorem dX12_doesLoad_146 : decode cX12_doesLoad 146 = .ok (.iaload, 1) := by decide +kernel
theorem dX12_doesLoad_147 : decode cX12_doesLoad 147 = .ok (.invokevirtual 79, 3) := by decide +kernel
theorem dX12_doesLoad_150 : decode cX12_doesLoad 150 = .ok (.ireturn, 1) := by decide +kernel
theorem dX12_becomesEmpty_0 : decode cX12_becomesEmpty 0 = .ok (.aload_n 0, 1) := by decide +kernel
theorem dX12_becomesEmpty_1 : decode cX12_becomesEmpty 1 = .ok (.getfield 9, 3) := by decide +kernel
theorem dX12_becomesEmpty_4 : decode cX12_becomesEmpty 4 = .ok (.iload_n 1, 1) := by decide +kernel
theorem dX12_becomesEmpty_5 : decode cX12_becomesEmpty 5 = .ok (.iconst (-1), 1) := by decide +kernel
theorem dX12_becomesEmpty_6 : decode cX12_becomesEmpty 6 = .ok (.iastore, 1) := by decide +kernel
theorem dX12_becomesEmpty_7 : decode cX12_becomesEmpty 7 = .ok (.aload_n 0, 1) := by decide +kernel
theorem dX12_becomesEmpty_8 : decode cX12_becomesEmpty 8 = .ok (.getfield 9, 3) := by decide +kernel
theorem dX12_becomesEmpty_11 : decode cX12_becomesEmpty 11 = .ok (.iload_n 1, 1) := by decide +kernel
theorem dX12_becomesEmpty_12 : decode cX12_becomesEmpty 12 = .ok (.iconst 1, 1) := by decide +kernel
theorem dX12_becomesEmpty_13 : decode cX12_becomesEmpty 13 = .ok (.iadd, 1) := by decide +kernel
theorem dX12_becomesEmpty_14 : decode cX12_becomesEmpty 14 = .ok (.iconst 0, 1) := by decide +kernel
theorem dX12_becomesEmpty_15 : decode cX12_becomesEmpty 15 = .ok (.iastore, 1) := by decide +kernel
theorem dX12_becomesEmpty_16 : decode cX12_becomesEmpty 16 = .ok (.aload_n 0, 1) := by decide +kernel
theorem dX12_becomesEmpty_17 : decode cX12_becomesEmpty 17 = .ok (.getfield 9, 3) := by decide +kernel
theorem dX12_becomesEmpty_20 : decode cX12_becomesEmpty 20 = .ok (.iload_n 1, 1) := by decide +kernel
theorem dX12_becomesEmpty_21 : decode cX12_becomesEmpty 21 = .ok (.iconst 2, 1) := by decide +kernel
theorem dX12_becomesEmpty_22 : decode cX12_becomesEmpty 22 = .ok (.iadd, 1) := by decide +kernel
theorem dX12_becomesEmpty_23 : decode cX12_becomesEmpty 23 = .ok (.iconst 0, 1) := by decide +kernel
theorem dX12_becomesEmpty_24 : decode cX12_becomesEmpty 24 = .ok (.iastore, 1) := by decide +kernel
theorem dX12_becomesEmpty_25 : decode cX12_becomesEmpty 25 = .ok (.return_, 1) := by decide +kernel
theorem dX12_doesEmpty_0 : decode cX12_doesEmpty 0 = .ok (.iload_n 1, 1) := by decide +kernel
theorem dX12_doesEmpty_1 : decode cX12_doesEmpty 1 = .ok (.invokestatic 92, 3) := by decide +kernel
theorem dX12_doesEmpty_4 : decode cX12_doesEmpty 4 = .ok (.ifCond .ne 10, 3) := by decide +kernel
theorem dX12_doesEmpty_7 : decode cX12_doesEmpty 7 = .ok (.aload_n 0, 1) := by decide +kernel
theorem dX12_doesEmpty_8 : decode cX12_doesEmpty 8 = .ok (.iconst 1, 1) := by decide +kernel
theorem dX12_doesEmpty_9 : decode cX12_doesEmpty 9 = .ok (.iconst 0, 1) := by decide +kernel
theorem dX12_doesEmpty_10 : decode cX12_doesEmpty 10 = .ok (.invokevirtual 75, 3) := by decide +kernel
theorem dX12_doesEmpty_13 : decode cX12_doesEmpty 13 = .ok (.ireturn, 1) := by decide +kernel
theorem dX12_doesEmpty_14 : decode cX12_doesEmpty 14 = .ok (.bipush 100, 2) := by decide +kernel
theorem dX12_doesEmpty_16 : decode cX12_doesEmpty 16 = .ok (.iconst 3, 1) := by decide +kernel
theorem dX12_doesEmpty_17 : decode cX12_doesEmpty 17 = .ok (.iload_n 1, 1) := by decide +kernel
theorem dX12_doesEmpty_18 : decode cX12_doesEmpty 18 = .ok (.imul, 1) := by decide +kernel
theorem dX12_doesEmpty_19 : decode cX12_doesEmpty 19 = .ok (.iadd, 1) := by decide +kernel
theorem dX12_doesEmpty_20 : decode cX12_doesEmpty 20 = .ok (.istore_n 2, 1) := by decide +kernel
theorem dX12_doesEmpty_21 : decode cX12_doesEmpty 21 = .ok (.aload_n 0, 1) := by decide +kernel
theorem dX12_doesEmpty_22 : decode cX12_doesEmpty 22 = .ok (.getfield 9, 3) := by decide +kernel
theorem dX12_doesEmpty_25 : decode cX12_doesEmpty 25 = .ok (.iload_n 2, 1) := by decide +kernel
theorem dX12_doesEmpty_26 : decode cX12_doesEmpty 26 = .ok (.iaload, 1) := by decide +kernel
theorem dX12_doesEmpty_27 : decode cX12_doesEmpty 27 = .ok (.ifCond .ge 11, 3) := by decide +kernel
theorem dX12_doesEmpty_30 : decode cX12_doesEmpty 30 = .ok (.aload_n 0, 1) := by decide +kernel
theorem dX12_doesEmpty_31 : decode cX12_doesEmpty 31 = .ok (.bipush 8, 2) := by decide +kernel
theorem dX12_doesEmpty_33 : decode cX12_doesEmpty 33 = .ok (.iconst 0, 1) := by decide +kernel
theorem dX12_doesEmpty_34 : decode cX12_doesEmpty 34 = .ok (.invokevirtual 75, 3) := by decide +kernel
theorem dX12_doesEmpty_37 : decode cX12_doesEmpty 37 = .ok (.ireturn, 1) := by decide +kernel
theorem dX12_doesEmpty_38 : decode cX12_doesEmpty 38 = .ok (.aload_n 0, 1) := by decide +kernel
theorem dX12_doesEmpty_39 : decode cX12_doesEmpty 39 = .ok (.getfield 9, 3) := by decide +kernel
theorem dX12_doesEmpty_42 : decode cX12_doesEmpty 42 = .ok (.iload_n 2, 1) := by decide +kernel
theorem dX12_doesEmpty_43 : decode cX12_doesEmpty 43 = .ok (.iconst 1, 1) := by decide +kernel
theorem dX12_doesEmpty_44 : decode cX12_doesEmpty 44 = .ok (.iadd, 1) := by decide +kernel
theorem dX12_doesEmpty_45 : decode cX12_doesEmpty 45 = .ok (.iaload, 1) := by decide +kernel
theorem dX12_doesEmpty_46 : decode cX12_doesEmpty 46 = .ok (.istore_n 3, 1) := by decide +kernel
theorem dX12_doesEmpty_47 : decode cX12_doesEmpty 47 = .ok (.aload_n 0, 1) := by decide +kernel
theorem dX12_doesEmpty_48 : decode cX12_doesEmpty 48 = .ok (.iload_n 2, 1) := by decide +kernel
theorem dX12_doesEmpty_49 : decode cX12_doesEmpty 49 = .ok (.invokevirtual 99, 3) := by decide +kernel
theorem dX12_doesEmpty_52 : decode cX12_doesEmpty 52 = .ok (.aload_n 0, 1) := by decide +kernel
theorem dX12_doesEmpty_53 : decode cX12_doesEmpty 53 = .ok (.iload_n 3, 1) := by decide +kernel
theorem dX12_doesEmpty_54 : decode cX12_doesEmpty 54 = .ok (.invokevirtual 79, 3) := by decide +kernel
theorem dX12_doesEmpty_57 : decode cX12_doesEmpty 57 = .ok (.ireturn, 1) := by decide +kernel
theorem dX12_doesPause_0 : decode cX12_doesPause 0 = .ok (.iload_n 1, 1) := by decide +kernel
theorem dX12_doesPause_1 : decode cX12_doesPause 1 = .ok (.iconst 1, 1) := by decide +kernel
theorem dX12_doesPause_2 : decode cX12_doesPause 2 = .ok (.sipush 999, 3) := by decide +kernel
theorem dX12_doesPause_5 : decode cX12_doesPause 5 = .ok (.invokestatic 64, 3) := by decide +kernel
theorem dX12_doesPause_8 : decode cX12_doesPause 8 = .ok (.ifCond .eq 15, 3) := by decide +kernel
theorem dX12_doesPause_11 : decode cX12_doesPause 11 = .ok (.aload_n 0, 1) := by decide +kernel
theorem dX12_doesPause_12 : decode cX12_doesPause 12 = .ok (.aload_n 0, 1) := by decide +kernel
theorem dX12_doesPause_13 : decode cX12_doesPause 13 = .ok (.iload_n 1, 1) := by decide +kernel
theorem dX12_doesPause_14 : decode cX12_doesPause 14 = .ok (.invokevirtual 89, 3) := by decide +kernel
theorem dX12_doesPause_17 : decode cX12_doesPause 17 = .ok (.invokevirtual 79, 3) := by decide +kernel
theorem dX12_doesPause_20 : decode cX12_doesPause 20 = .ok (.goto 9, 3) := by decide +kernel
theorem dX12_doesPause_23 : decode cX12_doesPause 23 = .ok (.aload_n 0, 1) := by decide +kernel
theorem dX12_doesPause_24 : decode cX12_doesPause 24 = .ok (.iconst 2, 1) := by decide +kernel
theorem dX12_doesPause_25 : decode cX12_doesPause 25 = .ok (.iconst 0, 1) := by decide +kernel
theorem dX12_doesPause_26 : decode cX12_doesPause 26 = .ok (.invokevirtual 75, 3) := by decide +kernel
theorem dX12_doesPause_29 : decode cX12_doesPause 29 = .ok (.ireturn, 1) := by decide +kernel
theorem dX12_purgeOf_0 : decode cX12_purgeOf 0 = .ok (.iload_n 1, 1) := by decide +kernel
theorem dX12_purgeOf_1 : decode cX12_purgeOf 1 = .ok (.ifCond .lt 8, 3) := by decide +kernel
theorem dX12_purgeOf_4 : decode cX12_purgeOf 4 = .ok (.iload_n 1, 1) := by decide +kernel
theorem dX12_purgeOf_5 : decode cX12_purgeOf 5 = .ok (.iload_n 2, 1) := by decide +kernel
theorem dX12_purgeOf_6 : decode cX12_purgeOf 6 = .ok (.if_icmp .ne 5, 3) := by decide +kernel
theorem dX12_purgeOf_9 : decode cX12_purgeOf 9 = .ok (.iconst 0, 1) := by decide +kernel
theorem dX12_purgeOf_10 : decode cX12_purgeOf 10 = .ok (.ireturn, 1) := by decide +kernel
theorem dX12_purgeOf_11 : decode cX12_purgeOf 11 = .ok (.iconst 1, 1) := by decide +kernel
theorem dX12_purgeOf_12 : decode cX12_purgeOf 12 = .ok (.iconst 0, 1) := by decide +kernel
theorem dX12_purgeOf_13 : decode cX12_purgeOf 13 = .ok (.aload_n 0, 1) := by decide +kernel
theorem dX12_purgeOf_14 : decode cX12_purgeOf 14 = .ok (.getfield 9, 3) := by decide +kernel
theorem dX12_purgeOf_17 : decode cX12_purgeOf 17 = .ok (.bipush 16, 2) := by decide +kernel
theorem dX12_purgeOf_19 : decode cX12_purgeOf 19 = .ok (.iload_n 1, 1) := by decide +kernel
theorem dX12_purgeOf_20 : decode cX12_purgeOf 20 = .ok (.iadd, 1) := by decide +kernel
theorem dX12_purgeOf_21 : decode cX12_purgeOf 21 = .ok (.iaload, 1) := by decide +kernel
theorem dX12_purgeOf_22 : decode cX12_purgeOf 22 = .ok (.aload_n 0, 1) := by decide +kernel
theorem dX12_purgeOf_23 : decode cX12_purgeOf 23 = .ok (.getfield 9, 3) := by decide +kernel
theorem dX12_purgeOf_26 : decode cX12_purgeOf 26 = .ok (.bipush 16, 2) := by decide +kernel
theorem dX12_purgeOf_28 : decode cX12_purgeOf 28 = .ok (.iload_n 2, 1) := by decide +kernel
theorem dX12_purgeOf_29 : decode cX12_purgeOf 29 = .ok (.iadd, 1) := by decide +kernel
theorem dX12_purgeOf_30 : decode cX12_purgeOf 30 = .ok (.iaload, 1) := by decide +kernel
theorem dX12_purgeOf_31 : decode cX12_purgeOf 31 = .ok (.isub, 1) := by decide +kernel
theorem dX12_purgeOf_32 : decode cX12_purgeOf 32 = .ok (.invokestatic 103, 3) := by decide +kernel
theorem dX12_purgeOf_35 : decode cX12_purgeOf 35 = .ok (.aload_n 0, 1) := by decide +kernel
theorem dX12_purgeOf_36 : decode cX12_purgeOf 36 = .ok (.getfield 9, 3) := by decide +kernel
theorem dX12_purgeOf_39 : decode cX12_purgeOf 39 = .ok (.bipush 14, 2) := by decide +kernel
theorem dX12_purgeOf_41 : decode cX12_purgeOf 41 = .ok (.iaload, 1) := by decide +kernel
theorem dX12_purgeOf_42 : decode cX12_purgeOf 42 = .ok (.imul, 1) := by decide +kernel
theorem dX12_purgeOf_43 : decode cX12_purgeOf 43 = .ok (.iadd, 1) := by decide +kernel
theorem dX12_purgeOf_44 : decode cX12_purgeOf 44 = .ok (.ireturn, 1) := by decide +kernel
theorem dX12_doesRun_0 : decode cX12_doesRun 0 = .ok (.aload_n 0, 1) := by decide +kernel
theorem dX12_doesRun_1 : decode cX12_doesRun 1 = .ok (.iload_n 1, 1) := by decide +kernel
theorem dX12_doesRun_2 : decode cX12_doesRun 2 = .ok (.invokevirtual 95, 3) := by decide +kernel
theorem dX12_doesRun_5 : decode cX12_doesRun 5 = .ok (.ifCond .ne 10, 3) := by decide +kernel
theorem dX12_doesRun_8 : decode cX12_doesRun 8 = .ok (.aload_n 0, 1) := by decide +kernel
theorem dX12_doesRun_9 : decode cX12_doesRun 9 = .ok (.iconst 1, 1) := by decide +kernel
theorem dX12_doesRun_10 : decode cX12_doesRun 10 = .ok (.iconst 0, 1) := by decide +kernel
theorem dX12_doesRun_11 : decode cX12_doesRun 11 = .ok (.invokevirtual 75, 3) := by decide +kernel
theorem dX12_doesRun_14 : decode cX12_doesRun 14 = .ok (.ireturn, 1) := by decide +kernel
theorem dX12_doesRun_15 : decode cX12_doesRun 15 = .ok (.iload_n 2, 1) := by decide +kernel
theorem dX12_doesRun_16 : decode cX12_doesRun 16 = .ok (.iconst 1, 1) := by decide +kernel
theorem dX12_doesRun_17 : decode cX12_doesRun 17 = .ok (.sipush 200, 3) := by decide +kernel
theorem dX12_doesRun_20 : decode cX12_doesRun 20 = .ok (.invokestatic 64, 3) := by decide +kernel
theorem dX12_doesRun_23 : decode cX12_doesRun 23 = .ok (.ifCond .ne 10, 3) := by decide +kernel
theorem dX12_doesRun_26 : decode cX12_doesRun 26 = .ok (.aload_n 0, 1) := by decide +kernel
theorem dX12_doesRun_27 : decode cX12_doesRun 27 = .ok (.iconst 2, 1) := by decide +kernel
theorem dX12_doesRun_28 : decode cX12_doesRun 28 = .ok (.iconst 0, 1) := by decide +kernel
theorem dX12_doesRun_29 : decode cX12_doesRun 29 = .ok (.invokevirtual 75, 3) := by decide +kernel
theorem dX12_doesRun_32 : decode cX12_doesRun 32 = .ok (.ireturn, 1) := by decide +kernel
theorem dX12_doesRun_33 : decode cX12_doesRun 33 = .ok (.aload_n 0, 1) := by decide +kernel
theorem dX12_doesRun_34 : decode cX12_doesRun 34 = .ok (.getfield 9, 3) := by decide +kernel
theorem dX12_doesRun_37 : decode cX12_doesRun 37 = .ok (.iconst 4, 1) := by decide +kernel
theorem dX12_doesRun_38 : decode cX12_doesRun 38 = .ok (.iaload, 1) := by decide +kernel
theorem dX12_doesRun_39 : decode cX12_doesRun 39 = .ok (.istore_n 3, 1) := by decide +kernel
theorem dX12_doesRun_40 : decode cX12_doesRun 40 = .ok (.iload_n 3, 1) := by decide +kernel
theorem dX12_doesRun_41 : decode cX12_doesRun 41 = .ok (.ifCond .ge 10, 3) := by decide +kernel
theorem dX12_doesRun_44 : decode cX12_doesRun 44 = .ok (.aload_n 0, 1) := by decide +kernel
theorem dX12_doesRun_45 : decode cX12_doesRun 45 = .ok (.iconst 5, 1) := by decide +kernel
theorem dX12_doesRun_46 : decode cX12_doesRun 46 = .ok (.iconst 0, 1) := by decide +kernel
theorem dX12_doesRun_47 : decode cX12_doesRun 47 = .ok (.invokevirtual 75, 3) := by decide +kernel
theorem dX12_doesRun_50 : decode cX12_doesRun 50 = .ok (.ireturn, 1) := by decide +kernel
theorem dX12_doesRun_51 : decode cX12_doesRun 51 = .ok (.aload_n 0, 1) := by decide +kernel
theorem dX12_doesRun_52 : decode cX12_doesRun 52 = .ok (.aload_n 0, 1) := by decide +kernel
theorem dX12_doesRun_53 : decode cX12_doesRun 53 = .ok (.getfield 9, 3) := by decide +kernel
theorem dX12_doesRun_56 : decode cX12_doesRun 56 = .ok (.iconst 5, 1) := by decide +kernel
theorem dX12_doesRun_57 : decode cX12_doesRun 57 = .ok (.iaload, 1) := by decide +kernel
theorem dX12_doesRun_58 : decode cX12_doesRun 58 = .ok (.iload_n 1, 1) := by decide +kernel
theorem dX12_doesRun_59 : decode cX12_doesRun 59 = .ok (.invokevirtual 108, 3) := by decide +kernel
theorem dX12_doesRun_62 : decode cX12_doesRun 62 = .ok (.istore 4, 2) := by decide +kernel
theorem dX12_doesRun_64 : decode cX12_doesRun 64 = .ok (.aload_n 0, 1) := by decide +kernel
theorem dX12_doesRun_65 : decode cX12_doesRun 65 = .ok (.iload_n 3, 1) := by decide +kernel
theorem dX12_doesRun_66 : decode cX12_doesRun 66 = .ok (.iconst 1, 1) := by decide +kernel
theorem dX12_doesRun_67 : decode cX12_doesRun 67 = .ok (.invokevirtual 111, 3) := by decide +kernel
theorem dX12_doesRun_70 : decode cX12_doesRun 70 = .ok (.iload 4, 2) := by decide +kernel
theorem dX12_doesRun_72 : decode cX12_doesRun 72 = .ok (.iload_n 2, 1) := by decide +kernel
theorem dX12_doesRun_73 : decode cX12_doesRun 73 = .ok (.iadd, 1) := by decide +kernel
theorem dX12_doesRun_74 : decode cX12_doesRun 74 = .ok (.imul, 1) := by decide +kernel
theorem dX12_doesRun_75 : decode cX12_doesRun 75 = .ok (.istore 5, 2) := by decide +kernel
theorem dX12_doesRun_77 : decode cX12_doesRun 77 = .ok (.iconst (-1), 1) := by decide +kernel
theorem dX12_doesRun_78 : decode cX12_doesRun 78 = .ok (.istore 6, 2) := by decide +kernel
theorem dX12_doesRun_80 : decode cX12_doesRun 80 = .ok (.iconst (-1), 1) := by decide +kernel
theorem dX12_doesRun_81 : decode cX12_doesRun 81 = .ok (.istore 7, 2) := by decide +kernel
theorem dX12_doesRun_83 : decode cX12_doesRun 83 = .ok (.iconst 2, 1) := by decide +kernel
theorem dX12_doesRun_84 : decode cX12_doesRun 84 = .ok (.istore 8, 2) := by decide +kernel
theorem dX12_doesRun_86 : decode cX12_doesRun 86 = .ok (.iload 8, 2) := by decide +kernel
theorem dX12_doesRun_88 : decode cX12_doesRun 88 = .ok (.ifCond .lt 73, 3) := by decide +kernel
theorem dX12_doesRun_91 : decode cX12_doesRun 91 = .ok (.bipush 100, 2) := by decide +kernel
theorem dX12_doesRun_93 : decode cX12_doesRun 93 = .ok (.iconst 3, 1) := by decide +kernel
theorem dX12_doesRun_94 : decode cX12_doesRun 94 = .ok (.iload 8, 2) := by decide +kernel
theorem dX12_doesRun_96 : decode cX12_doesRun 96 = .ok (.imul, 1) := by decide +kernel
theorem dX12_doesRun_97 : decode cX12_doesRun 97 = .ok (.iadd, 1) := by decide +kernel
theorem dX12_doesRun_98 : decode cX12_doesRun 98 = .ok (.istore 9, 2) := by decide +kernel
theorem dX12_doesRun_100 : decode cX12_doesRun 100 = .ok (.aload_n 0, 1) := by decide +kernel
theorem dX12_doesRun_101 : decode cX12_doesRun 101 = .ok (.getfield 9, 3) := by decide +kernel
theorem dX12_doesRun_104 : decode cX12_doesRun 104 = .ok (.iload 9, 2) := by decide +kernel
theorem dX12_doesRun_106 : decode cX12_doesRun 106 = .ok (.iaload, 1) := by decide +kernel
theorem dX12_doesRun_107 : decode cX12_doesRun 107 = .ok (.iload_n 1, 1) := by decide +kernel
theorem dX12_doesRun_108 : decode cX12_doesRun 108 = .ok (.if_icmp .eq 6, 3) := by decide +kernel
theorem dX12_doesRun_111 : decode cX12_doesRun 111 = .ok (.goto 44, 3) := by decide +kernel
theorem dX12_doesRun_114 : decode cX12_doesRun 114 = .ok (.iload 9, 2) := by decide +kernel
theorem dX12_doesRun_116 : decode cX12_doesRun 116 = .ok (.istore 7, 2) := by decide +kernel
theorem dX12_doesRun_118 : decode cX12_doesRun 118 = .ok (.aload_n 0, 1) := by decide +kernel
theorem dX12_doesRun_119 : decode cX12_doesRun 119 = .ok (.getfield 9, 3) := by decide +kernel
theorem dX12_doesRun_122 : decode cX12_doesRun 122 = .ok (.iload 9, 2) := by decide +kernel
theorem dX12_doesRun_124 : decode cX12_doesRun 124 = .ok (.iconst 2, 1) := by decide +kernel
theorem dX12_doesRun_125 : decode cX12_doesRun 125 = .ok (.iadd, 1) := by decide +kernel
theorem dX12_doesRun_126 : decode cX12_doesRun 126 = .ok (.iaload, 1) := by decide +kernel
theorem dX12_doesRun_127 : decode cX12_doesRun 127 = .ok (.aload_n 0, 1) := by decide +kernel
theorem dX12_doesRun_128 : decode cX12_doesRun 128 = .ok (.getfield 9, 3) := by decide +kernel
theorem dX12_doesRun_131 : decode cX12_doesRun 131 = .ok (.bipush 13, 2) := by decide +kernel
theorem dX12_doesRun_133 : decode cX12_doesRun 133 = .ok (.iaload, 1) := by decide +kernel
theorem dX12_doesRun_134 : decode cX12_doesRun 134 = .ok (.if_icmp .lt 21, 3) := by decide +kernel
theorem dX12_doesRun_137 : decode cX12_doesRun 137 = .ok (.aload_n 0, 1) := by decide +kernel
theorem dX12_doesRun_138 : decode cX12_doesRun 138 = .ok (.getfield 9, 3) := by decide +kernel
theorem dX12_doesRun_141 : decode cX12_doesRun 141 = .ok (.iload 9, 2) := by decide +kernel
theorem dX12_doesRun_143 : decode cX12_doesRun 143 = .ok (.iconst 1, 1) := by decide +kernel
theorem dX12_doesRun_144 : decode cX12_doesRun 144 = .ok (.iadd, 1) := by decide +kernel
theorem dX12_doesRun_145 : decode cX12_doesRun 145 = .ok (.iaload, 1) := by decide +kernel
theorem dX12_doesRun_146 : decode cX12_doesRun 146 = .ok (.iload 5, 2) := by decide +kernel
theorem dX12_doesRun_148 : decode cX12_doesRun 148 = .ok (.if_icmp .lt 7, 3) := by decide +kernel
theorem dX12_doesRun_151 : decode cX12_doesRun 151 = .ok (.iload 9, 2) := by decide +kernel
theorem dX12_doesRun_153 : decode cX12_doesRun 153 = .ok (.istore 6, 2) := by decide +kernel
theorem dX12_doesRun_155 : decode cX12_doesRun 155 = .ok (.iinc 8 (-1), 3) := by decide +kernel
theorem dX12_doesRun_158 : decode cX12_doesRun 158 = .ok (.goto (-72), 3) := by decide +kernel
theorem dX12_doesRun_161 : decode cX12_doesRun 161 = .ok (.iload 6, 2) := by decide +kernel
theorem dX12_doesRun_163 : decode cX12_doesRun 163 = .ok (.ifCond .ge 76, 3) := by decide +kernel
theorem dX12_doesRun_166 : decode cX12_doesRun 166 = .ok (.aload_n 0, 1) := by decide +kernel
theorem dX12_doesRun_167 : decode cX12_doesRun 167 = .ok (.bipush 10, 2) := by decide +kernel
theorem dX12_doesRun_169 : decode cX12_doesRun 169 = .ok (.iconst 0, 1) := by decide +kernel
theorem dX12_doesRun_170 : decode cX12_doesRun 170 = .ok (.invokevirtual 75, 3) := by decide +kernel
theorem dX12_doesRun_173 : decode cX12_doesRun 173 = .ok (.istore 8, 2) := by decide +kernel
theorem dX12_doesRun_175 : decode cX12_doesRun 175 = .ok (.iload 7, 2) := by decide +kernel
theorem dX12_doesRun_177 : decode cX12_doesRun 177 = .ok (.ifCond .ge 6, 3) := by decide +kernel
theorem dX12_doesRun_180 : decode cX12_doesRun 180 = .ok (.iload 8, 2) := by decide +kernel
theorem dX12_doesRun_182 : decode cX12_doesRun 182 = .ok (.ireturn, 1) := by decide +kernel
theorem dX12_doesRun_183 : decode cX12_doesRun 183 = .ok (.aload_n 0, 1) := by decide +kernel
theorem dX12_doesRun_184 : decode cX12_doesRun 184 = .ok (.getfield 9, 3) := by decide +kernel
theorem dX12_doesRun_187 : decode cX12_doesRun 187 = .ok (.bipush 13, 2) := by decide +kernel
theorem dX12_doesRun_189 : decode cX12_doesRun 189 = .ok (.iaload, 1) := by decide +kernel
theorem dX12_doesRun_190 : decode cX12_doesRun 190 = .ok (.aload_n 0, 1) := by decide +kernel
theorem dX12_doesRun_191 : decode cX12_doesRun 191 = .ok (.getfield 9, 3) := by decide +kernel
theorem dX12_doesRun_194 : decode cX12_doesRun 194 = .ok (.iload 7, 2) := by decide +kernel
theorem dX12_doesRun_196 : decode cX12_doesRun 196 = .ok (.iconst 2, 1) := by decide +kernel
theorem dX12_doesRun_197 : decode cX12_doesRun 197 = .ok (.iadd, 1) := by decide +kernel
theorem dX12_doesRun_198 : decode cX12_doesRun 198 = .ok (.iaload, 1) := by decide +kernel
theorem dX12_doesRun_199 : decode cX12_doesRun 199 = .ok (.isub, 1) := by decide +kernel
theorem dX12_doesRun_200 : decode cX12_doesRun 200 = .ok (.istore 9, 2) := by decide +kernel
theorem dX12_doesRun_202 : decode cX12_doesRun 202 = .ok (.iload 9, 2) := by decide +kernel
theorem dX12_doesRun_204 : decode cX12_doesRun 204 = .ok (.ifCond .le 14, 3) := by decide +kernel
theorem dX12_doesRun_207 : decode cX12_doesRun 207 = .ok (.aload_n 0, 1) := by decide +kernel
theorem dX12_doesRun_208 : decode cX12_doesRun 208 = .ok (.bipush 11, 2) := by decide +kernel
theorem dX12_doesRun_210 : decode cX12_doesRun 210 = .ok (.iload 9, 2) := by decide +kernel
theorem dX12_doesRun_212 : decode cX12_doesRun 212 = .ok (.invokevirtual 114, 3) := by decide +kernel
theorem dX12_doesRun_215 : decode cX12_doesRun 215 = .ok (.goto 21, 3) := by decide +kernel
theorem dX12_doesRun_218 : decode cX12_doesRun 218 = .ok (.aload_n 0, 1) := by decide +kernel
theorem dX12_doesRun_219 : decode cX12_doesRun 219 = .ok (.bipush 12, 2) := by decide +kernel
theorem dX12_doesRun_221 : decode cX12_doesRun 221 = .ok (.iload 5, 2) := by decide +kernel
theorem dX12_doesRun_223 : decode cX12_doesRun 223 = .ok (.aload_n 0, 1) := by decide +kernel
theorem dX12_doesRun_224 : decode cX12_doesRun 224 = .ok (.getfield 9, 3) := by decide +kernel
theorem dX12_doesRun_227 : decode cX12_doesRun 227 = .ok (.iload 7, 2) := by decide +kernel
theorem dX12_doesRun_229 : decode cX12_doesRun 229 = .ok (.iconst 1, 1) := by decide +kernel
theorem dX12_doesRun_230 : decode cX12_doesRun 230 = .ok (.iadd, 1) := by decide +kernel
theorem dX12_doesRun_231 : decode cX12_doesRun 231 = .ok (.iaload, 1) := by decide +kernel
theorem dX12_doesRun_232 : decode cX12_doesRun 232 = .ok (.isub, 1) := by decide +kernel
theorem dX12_doesRun_233 : decode cX12_doesRun 233 = .ok (.invokevirtual 114, 3) := by decide +kernel
theorem dX12_doesRun_236 : decode cX12_doesRun 236 = .ok (.iload 8, 2) := by decide +kernel
theorem dX12_doesRun_238 : decode cX12_doesRun 238 = .ok (.ireturn, 1) := by decide +kernel
theorem dX12_doesRun_239 : decode cX12_doesRun 239 = .ok (.aload_n 0, 1) := by decide +kernel
theorem dX12_doesRun_240 : decode cX12_doesRun 240 = .ok (.getfield 9, 3) := by decide +kernel
theorem dX12_doesRun_243 : decode cX12_doesRun 243 = .ok (.iload 6, 2) := by decide +kernel
theorem dX12_doesRun_245 : decode cX12_doesRun 245 = .ok (.iconst 1, 1) := by decide +kernel
theorem dX12_doesRun_246 : decode cX12_doesRun 246 = .ok (.iadd, 1) := by decide +kernel
theorem dX12_doesRun_247 : decode cX12_doesRun 247 = .ok (.dup2, 1) := by decide +kernel
theorem dX12_doesRun_248 : decode cX12_doesRun 248 = .ok (.iaload, 1) := by decide +kernel
theorem dX12_doesRun_249 : decode cX12_doesRun 249 = .ok (.iload 5, 2) := by decide +kernel
theorem dX12_doesRun_251 : decode cX12_doesRun 251 = .ok (.isub, 1) := by decide +kernel
theorem dX12_doesRun_252 : decode cX12_doesRun 252 = .ok (.iastore, 1) := by decide +kernel
theorem dX12_doesRun_253 : decode cX12_doesRun 253 = .ok (.aload_n 0, 1) := by decide +kernel
theorem dX12_doesRun_254 : decode cX12_doesRun 254 = .ok (.getfield 9, 3) := by decide +kernel
theorem dX12_doesRun_257 : decode cX12_doesRun 257 = .ok (.iload 6, 2) := by decide +kernel
theorem dX12_doesRun_259 : decode cX12_doesRun 259 = .ok (.iconst 1, 1) := by decide +kernel
theorem dX12_doesRun_260 : decode cX12_doesRun 260 = .ok (.iadd, 1) := by decide +kernel
theorem dX12_doesRun_261 : decode cX12_doesRun 261 = .ok (.iaload, 1) := by decide +kernel
theorem dX12_doesRun_262 : decode cX12_doesRun 262 = .ok (.ifCond .ne 9, 3) := by decide +kernel
theorem dX12_doesRun_265 : decode cX12_doesRun 265 = .ok (.aload_n 0, 1) := by decide +kernel
theorem dX12_doesRun_266 : decode cX12_doesRun 266 = .ok (.iload 6, 2) := by decide +kernel
theorem dX12_doesRun_268 : decode cX12_doesRun 268 = .ok (.invokevirtual 99, 3) := by decide +kernel
theorem dX12_doesRun_271 : decode cX12_doesRun 271 = .ok (.aload_n 0, 1) := by decide +kernel
theorem dX12_doesRun_272 : decode cX12_doesRun 272 = .ok (.getfield 9, 3) := by decide +kernel
theorem dX12_doesRun_275 : decode cX12_doesRun 275 = .ok (.bipush 9, 2) := by decide +kernel
theorem dX12_doesRun_277 : decode cX12_doesRun 277 = .ok (.dup2, 1) := by decide +kernel
theorem dX12_doesRun_278 : decode cX12_doesRun 278 = .ok (.iaload, 1) := by decide +kernel
theorem dX12_doesRun_279 : decode cX12_doesRun 279 = .ok (.iload 5, 2) := by decide +kernel
theorem dX12_doesRun_281 : decode cX12_doesRun 281 = .ok (.iadd, 1) := by decide +kernel
theorem dX12_doesRun_282 : decode cX12_doesRun 282 = .ok (.iastore, 1) := by decide +kernel
theorem dX12_doesRun_283 : decode cX12_doesRun 283 = .ok (.aload_n 0, 1) := by decide +kernel
theorem dX12_doesRun_284 : decode cX12_doesRun 284 = .ok (.getfield 9, 3) := by decide +kernel
theorem dX12_doesRun_287 : decode cX12_doesRun 287 = .ok (.bipush 10, 2) := by decide +kernel
theorem dX12_doesRun_289 : decode cX12_doesRun 289 = .ok (.dup2, 1) := by decide +kernel
theorem dX12_doesRun_290 : decode cX12_doesRun 290 = .ok (.iaload, 1) := by decide +kernel
theorem dX12_doesRun_291 : decode cX12_doesRun 291 = .ok (.iload 4, 2) := by decide +kernel
theorem dX12_doesRun_293 : decode cX12_doesRun 293 = .ok (.iload_n 2, 1) := by decide +kernel
theorem dX12_doesRun_294 : decode cX12_doesRun 294 = .ok (.iadd, 1) := by decide +kernel
theorem dX12_doesRun_295 : decode cX12_doesRun 295 = .ok (.iadd, 1) := by decide +kernel
theorem dX12_doesRun_296 : decode cX12_doesRun 296 = .ok (.iastore, 1) := by decide +kernel
theorem dX12_doesRun_297 : decode cX12_doesRun 297 = .ok (.aload_n 0, 1) := by decide +kernel
theorem dX12_doesRun_298 : decode cX12_doesRun 298 = .ok (.getfield 9, 3) := by decide +kernel
theorem dX12_doesRun_301 : decode cX12_doesRun 301 = .ok (.bipush 11, 2) := by decide +kernel
theorem dX12_doesRun_303 : decode cX12_doesRun 303 = .ok (.dup2, 1) := by decide +kernel
theorem dX12_doesRun_304 : decode cX12_doesRun 304 = .ok (.iaload, 1) := by decide +kernel
theorem dX12_doesRun_305 : decode cX12_doesRun 305 = .ok (.iload 4, 2) := by decide +kernel
theorem dX12_doesRun_307 : decode cX12_doesRun 307 = .ok (.iadd, 1) := by decide +kernel
theorem dX12_doesRun_308 : decode cX12_doesRun 308 = .ok (.iastore, 1) := by decide +kernel
theorem dX12_doesRun_309 : decode cX12_doesRun 309 = .ok (.aload_n 0, 1) := by decide +kernel
theorem dX12_doesRun_310 : decode cX12_doesRun 310 = .ok (.getfield 9, 3) := by decide +kernel
theorem dX12_doesRun_313 : decode cX12_doesRun 313 = .ok (.iconst 5, 1) := by decide +kernel
theorem dX12_doesRun_314 : decode cX12_doesRun 314 = .ok (.iload_n 1, 1) := by decide +kernel
theorem dX12_doesRun_315 : decode cX12_doesRun 315 = .ok (.iastore, 1) := by decide +kernel
theorem dX12_doesRun_316 : decode cX12_doesRun 316 = .ok (.aload_n 0, 1) := by decide +kernel
theorem dX12_doesRun_317 : decode cX12_doesRun 317 = .ok (.aload_n 0, 1) := by decide +kernel
theorem dX12_doesRun_318 : decode cX12_doesRun 318 = .ok (.iload_n 3, 1) := by decide +kernel
theorem dX12_doesRun_319 : decode cX12_doesRun 319 = .ok (.iconst 0, 1) := by decide +kernel
theorem dX12_doesRun_320 : decode cX12_doesRun 320 = .ok (.invokevirtual 111, 3) := by decide +kernel
theorem dX12_doesRun_323 : decode cX12_doesRun 323 = .ok (.iload 4, 2) := by decide +kernel
theorem dX12_doesRun_325 : decode cX12_doesRun 325 = .ok (.iload_n 2, 1) := by decide +kernel
theorem dX12_doesRun_326 : decode cX12_doesRun 326 = .ok (.iadd, 1) := by decide +kernel
theorem dX12_doesRun_327 : decode cX12_doesRun 327 = .ok (.imul, 1) := by decide +kernel
theorem dX12_doesRun_328 : decode cX12_doesRun 328 = .ok (.invokevirtual 89, 3) := by decide +kernel
theorem dX12_doesRun_331 : decode cX12_doesRun 331 = .ok (.istore 8, 2) := by decide +kernel
theorem dX12_doesRun_333 : decode cX12_doesRun 333 = .ok (.iconst 0, 1) := by decide +kernel
theorem dX12_doesRun_334 : decode cX12_doesRun 334 = .ok (.istore 9, 2) := by decide +kernel
theorem dX12_doesRun_336 : decode cX12_doesRun 336 = .ok (.iload 9, 2) := by decide +kernel
theorem dX12_doesRun_338 : decode cX12_doesRun 338 = .ok (.aload_n 0, 1) := by decide +kernel
theorem dX12_doesRun_339 : decode cX12_doesRun 339 = .ok (.iload_n 3, 1) := by decide +kernel
theorem dX12_doesRun_340 : decode cX12_doesRun 340 = .ok (.iconst 2, 1) := by decide +kernel
theorem dX12_doesRun_341 : decode cX12_doesRun 341 = .ok (.invokevirtual 111, 3) := by decide +kernel
theorem dX12_doesRun_344 : decode cX12_doesRun 344 = .ok (.if_icmp .ge 155, 3) := by decide +kernel
theorem dX12_doesRun_347 : decode cX12_doesRun 347 = .ok (.aload_n 0, 1) := by decide +kernel
theorem dX12_doesRun_348 : decode cX12_doesRun 348 = .ok (.iload_n 3, 1) := by decide +kernel
theorem dX12_doesRun_349 : decode cX12_doesRun 349 = .ok (.iconst 3, 1) := by decide +kernel
theorem dX12_doesRun_350 : decode cX12_doesRun 350 = .ok (.iload 9, 2) := by decide +kernel
theorem dX12_doesRun_352 : decode cX12_doesRun 352 = .ok (.iadd, 1) := by decide +kernel
theorem dX12_doesRun_353 : decode cX12_doesRun 353 = .ok (.invokevirtual 111, 3) := by decide +kernel
theorem dX12_doesRun_356 : decode cX12_doesRun 356 = .ok (.istore 10, 2) := by decide +kernel
theorem dX12_doesRun_358 : decode cX12_doesRun 358 = .ok (.aload_n 0, 1) := by decide +kernel
theorem dX12_doesRun_359 : decode cX12_doesRun 359 = .ok (.iload_n 3, 1) := by decide +kernel
theorem dX12_doesRun_360 : decode cX12_doesRun 360 = .ok (.bipush 6, 2) := by decide +kernel
theorem dX12_doesRun_362 : decode cX12_doesRun 362 = .ok (.iload 9, 2) := by decide +kernel
theorem dX12_doesRun_364 : decode cX12_doesRun 364 = .ok (.iadd, 1) := by decide +kernel
theorem dX12_doesRun_365 : decode cX12_doesRun 365 = .ok (.invokevirtual 111, 3) := by decide +kernel
theorem dX12_doesRun_368 : decode cX12_doesRun 368 = .ok (.istore 11, 2) := by decide +kernel
theorem dX12_doesRun_370 : decode cX12_doesRun 370 = .ok (.iload 10, 2) := by decide +kernel
theorem dX12_doesRun_372 : decode cX12_doesRun 372 = .ok (.iload_n 1, 1) := by decide +kernel
theorem dX12_doesRun_373 : decode cX12_doesRun 373 = .ok (.invokestatic 68, 3) := by decide +kernel
theorem dX12_doesRun_376 : decode cX12_doesRun 376 = .ok (.istore 12, 2) := by decide +kernel
theorem dX12_doesRun_378 : decode cX12_doesRun 378 = .ok (.aload_n 0, 1) := by decide +kernel
theorem dX12_doesRun_379 : decode cX12_doesRun 379 = .ok (.getfield 9, 3) := by decide +kernel
theorem dX12_doesRun_382 : decode cX12_doesRun 382 = .ok (.bipush 30, 2) := by decide +kernel
theorem dX12_doesRun_384 : decode cX12_doesRun 384 = .ok (.iload 10, 2) := by decide +kernel
theorem dX12_doesRun_386 : decode cX12_doesRun 386 = .ok (.iadd, 1) := by decide +kernel
theorem dX12_doesRun_387 : decode cX12_doesRun 387 = .ok (.dup2, 1) := by decide +kernel
theorem dX12_doesRun_388 : decode cX12_doesRun 388 = .ok (.iaload, 1) := by decide +kernel
theorem dX12_doesRun_389 : decode cX12_doesRun 389 = .ok (.iload 11, 2) := by decide +kernel
theorem dX12_doesRun_391 : decode cX12_doesRun 391 = .ok (.iload 4, 2) := by decide +kernel
theorem dX12_doesRun_393 : decode cX12_doesRun 393 = .ok (.iload_n 2, 1) := by decide +kernel
theorem dX12_doesRun_394 : decode cX12_doesRun 394 = .ok (.iadd, 1) := by decide +kernel
theorem dX12_doesRun_395 : decode cX12_doesRun 395 = .ok (.imul, 1) := by decide +kernel
theorem dX12_doesRun_396 : decode cX12_doesRun 396 = .ok (.iadd, 1) := by decide +kernel
theorem dX12_doesRun_397 : decode cX12_doesRun 397 = .ok (.iastore, 1) := by decide +kernel
theorem dX12_doesRun_398 : decode cX12_doesRun 398 = .ok (.aload_n 0, 1) := by decide +kernel
theorem dX12_doesRun_399 : decode cX12_doesRun 399 = .ok (.getfield 9, 3) := by decide +kernel
theorem dX12_doesRun_402 : decode cX12_doesRun 402 = .ok (.bipush 38, 2) := by decide +kernel
theorem dX12_doesRun_404 : decode cX12_doesRun 404 = .ok (.iload 10, 2) := by decide +kernel
theorem dX12_doesRun_406 : decode cX12_doesRun 406 = .ok (.iadd, 1) := by decide +kernel
theorem dX12_doesRun_407 : decode cX12_doesRun 407 = .ok (.dup2, 1) := by decide +kernel
theorem dX12_doesRun_408 : decode cX12_doesRun 408 = .ok (.iaload, 1) := by decide +kernel
theorem dX12_doesRun_409 : decode cX12_doesRun 409 = .ok (.iload 11, 2) := by decide +kernel
theorem dX12_doesRun_411 : decode cX12_doesRun 411 = .ok (.iload 4, 2) := by decide +kernel
theorem dX12_doesRun_413 : decode cX12_doesRun 413 = .ok (.imul, 1) := by decide +kernel
theorem dX12_doesRun_414 : decode cX12_doesRun 414 = .ok (.iadd, 1) := by decide +kernel
theorem dX12_doesRun_415 : decode cX12_doesRun 415 = .ok (.iastore, 1) := by decide +kernel
theorem dX12_doesRun_416 : decode cX12_doesRun 416 = .ok (.aload_n 0, 1) := by decide +kernel
theorem dX12_doesRun_417 : decode cX12_doesRun 417 = .ok (.getfield 9, 3) := by decide +kernel
theorem dX12_doesRun_420 : decode cX12_doesRun 420 = .ok (.sipush 157, 3) := by decide +kernel
theorem dX12_doesRun_423 : decode cX12_doesRun 423 = .ok (.iload 12, 2) := by decide +kernel
theorem dX12_doesRun_425 : decode cX12_doesRun 425 = .ok (.iadd, 1) := by decide +kernel
theorem dX12_doesRun_426 : decode cX12_doesRun 426 = .ok (.dup2, 1) := by decide +kernel
theorem dX12_doesRun_427 : decode cX12_doesRun 427 = .ok (.iaload, 1) := by decide +kernel
theorem dX12_doesRun_428 : decode cX12_doesRun 428 = .ok (.iload 11, 2) := by decide +kernel
theorem dX12_doesRun_430 : decode cX12_doesRun 430 = .ok (.iload_n 2, 1) := by decide +kernel
theorem dX12_doesRun_431 : decode cX12_doesRun 431 = .ok (.imul, 1) := by decide +kernel
theorem dX12_doesRun_432 : decode cX12_doesRun 432 = .ok (.iadd, 1) := by decide +kernel
theorem dX12_doesRun_433 : decode cX12_doesRun 433 = .ok (.iastore, 1) := by decide +kernel
theorem dX12_doesRun_434 : decode cX12_doesRun 434 = .ok (.aload_n 0, 1) := by decide +kernel
theorem dX12_doesRun_435 : decode cX12_doesRun 435 = .ok (.getfield 9, 3) := by decide +kernel
theorem dX12_doesRun_438 : decode cX12_doesRun 438 = .ok (.bipush 109, 2) := by decide +kernel
theorem dX12_doesRun_440 : decode cX12_doesRun 440 = .ok (.iload 12, 2) := by decide +kernel
theorem dX12_doesRun_442 : decode cX12_doesRun 442 = .ok (.iadd, 1) := by decide +kernel
theorem dX12_doesRun_443 : decode cX12_doesRun 443 = .ok (.dup2, 1) := by decide +kernel
theorem dX12_doesRun_444 : decode cX12_doesRun 444 = .ok (.iaload, 1) := by decide +kernel
theorem dX12_doesRun_445 : decode cX12_doesRun 445 = .ok (.aload_n 0, 1) := by decide +kernel
theorem dX12_doesRun_446 : decode cX12_doesRun 446 = .ok (.getfield 9, 3) := by decide +kernel
theorem dX12_doesRun_449 : decode cX12_doesRun 449 = .ok (.sipush 157, 3) := by decide +kernel
theorem dX12_doesRun_452 : decode cX12_doesRun 452 = .ok (.iload 12, 2) := by decide +kernel
theorem dX12_doesRun_454 : decode cX12_doesRun 454 = .ok (.iadd, 1) := by decide +kernel
theorem dX12_doesRun_455 : decode cX12_doesRun 455 = .ok (.iaload, 1) := by decide +kernel
theorem dX12_doesRun_456 : decode cX12_doesRun 456 = .ok (.aload_n 0, 1) := by decide +kernel
theorem dX12_doesRun_457 : decode cX12_doesRun 457 = .ok (.getfield 9, 3) := by decide +kernel
theorem dX12_doesRun_460 : decode cX12_doesRun 460 = .ok (.bipush 22, 2) := by decide +kernel
theorem dX12_doesRun_462 : decode cX12_doesRun 462 = .ok (.iload 10, 2) := by decide +kernel
theorem dX12_doesRun_464 : decode cX12_doesRun 464 = .ok (.iadd, 1) := by decide +kernel
theorem dX12_doesRun_465 : decode cX12_doesRun 465 = .ok (.iaload, 1) := by decide +kernel
theorem dX12_doesRun_466 : decode cX12_doesRun 466 = .ok (.idiv, 1) := by decide +kernel
theorem dX12_doesRun_467 : decode cX12_doesRun 467 = .ok (.iadd, 1) := by decide +kernel
theorem dX12_doesRun_468 : decode cX12_doesRun 468 = .ok (.iastore, 1) := by decide +kernel
theorem dX12_doesRun_469 : decode cX12_doesRun 469 = .ok (.aload_n 0, 1) := by decide +kernel
theorem dX12_doesRun_470 : decode cX12_doesRun 470 = .ok (.getfield 9, 3) := by decide +kernel
theorem dX12_doesRun_473 : decode cX12_doesRun 473 = .ok (.sipush 157, 3) := by decide +kernel
theorem dX12_doesRun_476 : decode cX12_doesRun 476 = .ok (.iload 12, 2) := by decide +kernel
theorem dX12_doesRun_478 : decode cX12_doesRun 478 = .ok (.iadd, 1) := by decide +kernel
theorem dX12_doesRun_479 : decode cX12_doesRun 479 = .ok (.dup2, 1) := by decide +kernel
theorem dX12_doesRun_480 : decode cX12_doesRun 480 = .ok (.iaload, 1) := by decide +kernel
theorem dX12_doesRun_481 : decode cX12_doesRun 481 = .ok (.aload_n 0, 1) := by decide +kernel
theorem dX12_doesRun_482 : decode cX12_doesRun 482 = .ok (.getfield 9, 3) := by decide +kernel
theorem dX12_doesRun_485 : decode cX12_doesRun 485 = .ok (.bipush 22, 2) := by decide +kernel
theorem dX12_doesRun_487 : decode cX12_doesRun 487 = .ok (.iload 10, 2) := by decide +kernel
theorem dX12_doesRun_489 : decode cX12_doesRun 489 = .ok (.iadd, 1) := by decide +kernel
theorem dX12_doesRun_490 : decode cX12_doesRun 490 = .ok (.iaload, 1) := by decide +kernel
theorem dX12_doesRun_491 : decode cX12_doesRun 491 = .ok (.irem, 1) := by decide +kernel
theorem dX12_doesRun_492 : decode cX12_doesRun 492 = .ok (.iastore, 1) := by decide +kernel
theorem dX12_doesRun_493 : decode cX12_doesRun 493 = .ok (.iinc 9 1, 3) := by decide +kernel
theorem dX12_doesRun_496 : decode cX12_doesRun 496 = .ok (.goto (-160), 3) := by decide +kernel
theorem dX12_doesRun_499 : decode cX12_doesRun 499 = .ok (.aload_n 0, 1) := by decide +kernel
theorem dX12_doesRun_500 : decode cX12_doesRun 500 = .ok (.iload 4, 2) := by decide +kernel
theorem dX12_doesRun_502 : decode cX12_doesRun 502 = .ok (.invokevirtual 79, 3) := by decide +kernel
theorem dX12_doesRun_505 : decode cX12_doesRun 505 = .ok (.ireturn, 1) := by decide +kernel
theorem dX12_doesOrder_0 : decode cX12_doesOrder 0 = .ok (.aload_n 0, 1) := by decide +kernel
theorem dX12_doesOrder_1 : decode cX12_doesOrder 1 = .ok (.iload_n 1, 1) := by decide +kernel
theorem dX12_doesOrder_2 : decode cX12_doesOrder 2 = .ok (.invokevirtual 83, 3) := by decide +kernel
theorem dX12_doesOrder_5 : decode cX12_doesOrder 5 = .ok (.ifCond .eq 11, 3) := by decide +kernel
theorem dX12_doesOrder_8 : decode cX12_doesOrder 8 = .ok (.aload_n 0, 1) := by decide +kernel
theorem dX12_doesOrder_9 : decode cX12_doesOrder 9 = .ok (.iload_n 2, 1) := by decide +kernel
theorem dX12_doesOrder_10 : decode cX12_doesOrder 10 = .ok (.invokevirtual 95, 3) := by decide +kernel
theorem dX12_doesOrder_13 : decode cX12_doesOrder 13 = .ok (.ifCond .ne 10, 3) := by decide +kernel
theorem dX12_doesOrder_16 : decode cX12_doesOrder 16 = .ok (.aload_n 0, 1) := by decide +kernel
theorem dX12_doesOrder_17 : decode cX12_doesOrder 17 = .ok (.iconst 1, 1) := by decide +kernel
theorem dX12_doesOrder_18 : decode cX12_doesOrder 18 = .ok (.iconst 0, 1) := by decide +kernel
theorem dX12_doesOrder_19 : decode cX12_doesOrder 19 = .ok (.invokevirtual 75, 3) := by decide +kernel
theorem dX12_doesOrder_22 : decode cX12_doesOrder 22 = .ok (.ireturn, 1) := by decide +kernel
theorem dX12_doesOrder_23 : decode cX12_doesOrder 23 = .ok (.iload_n 3, 1) := by decide +kernel
theorem dX12_doesOrder_24 : decode cX12_doesOrder 24 = .ok (.iconst 1, 1) := by decide +kernel
theorem dX12_doesOrder_25 : decode cX12_doesOrder 25 = .ok (.bipush 20, 2) := by decide +kernel
theorem dX12_doesOrder_27 : decode cX12_doesOrder 27 = .ok (.invokestatic 64, 3) := by decide +kernel
theorem dX12_doesOrder_30 : decode cX12_doesOrder 30 = .ok (.ifCond .eq 14, 3) := by decide +kernel
theorem dX12_doesOrder_33 : decode cX12_doesOrder 33 = .ok (.iload 4, 2) := by decide +kernel
theorem dX12_doesOrder_35 : decode cX12_doesOrder 35 = .ok (.iconst 0, 1) := by decide +kernel
theorem dX12_doesOrder_36 : decode cX12_doesOrder 36 = .ok (.bipush 99, 2) := by decide +kernel
theorem dX12_doesOrder_38 : decode cX12_doesOrder 38 = .ok (.invokestatic 64, 3) := by decide +kernel
theorem dX12_doesOrder_41 : decode cX12_doesOrder 41 = .ok (.ifCond .ne 10, 3) := by decide +kernel
theorem dX12_doesOrder_44 : decode cX12_doesOrder 44 = .ok (.aload_n 0, 1) := by decide +kernel
theorem dX12_doesOrder_45 : decode cX12_doesOrder 45 = .ok (.iconst 2, 1) := by decide +kernel
theorem dX12_doesOrder_46 : decode cX12_doesOrder 46 = .ok (.iconst 0, 1) := by decide +kernel
theorem dX12_doesOrder_47 : decode cX12_doesOrder 47 = .ok (.invokevirtual 75, 3) := by decide +kernel
theorem dX12_doesOrder_50 : decode cX12_doesOrder 50 = .ok (.ireturn, 1) := by decide +kernel
theorem dX12_doesOrder_51 : decode cX12_doesOrder 51 = .ok (.aload_n 0, 1) := by decide +kernel
theorem dX12_doesOrder_52 : decode cX12_doesOrder 52 = .ok (.getfield 9, 3) := by decide +kernel
theorem dX12_doesOrder_55 : decode cX12_doesOrder 55 = .ok (.iconst 3, 1) := by decide +kernel
theorem dX12_doesOrder_56 : decode cX12_doesOrder 56 = .ok (.iaload, 1) := by decide +kernel
theorem dX12_doesOrder_57 : decode cX12_doesOrder 57 = .ok (.bipush 10, 2) := by decide +kernel
theorem dX12_doesOrder_59 : decode cX12_doesOrder 59 = .ok (.if_icmp .ne 10, 3) := by decide +kernel
theorem dX12_doesOrder_62 : decode cX12_doesOrder 62 = .ok (.aload_n 0, 1) := by decide +kernel
theorem dX12_doesOrder_63 : decode cX12_doesOrder 63 = .ok (.iconst 3, 1) := by decide +kernel
theorem dX12_doesOrder_64 : decode cX12_doesOrder 64 = .ok (.iconst 0, 1) := by decide +kernel
theorem dX12_doesOrder_65 : decode cX12_doesOrder 65 = .ok (.invokevirtual 75, 3) := by decide +kernel
theorem dX12_doesOrder_68 : decode cX12_doesOrder 68 = .ok (.ireturn, 1) := by decide +kernel
theorem dX12_doesOrder_69 : decode cX12_doesOrder 69 = .ok (.sipush 253, 3) := by decide +kernel
theorem dX12_doesOrder_72 : decode cX12_doesOrder 72 = .ok (.bipush 6, 2) := by decide +kernel
theorem dX12_doesOrder_74 : decode cX12_doesOrder 74 = .ok (.aload_n 0, 1) := by decide +kernel
theorem dX12_doesOrder_75 : decode cX12_doesOrder 75 = .ok (.getfield 9, 3) := by decide +kernel
theorem dX12_doesOrder_78 : decode cX12_doesOrder 78 = .ok (.iconst 3, 1) := by decide +kernel
theorem dX12_doesOrder_79 : decode cX12_doesOrder 79 = .ok (.iaload, 1) := by decide +kernel
theorem dX12_doesOrder_80 : decode cX12_doesOrder 80 = .ok (.imul, 1) := by decide +kernel
theorem dX12_doesOrder_81 : decode cX12_doesOrder 81 = .ok (.iadd, 1) := by decide +kernel
theorem dX12_doesOrder_82 : decode cX12_doesOrder 82 = .ok (.istore 5, 2) := by decide +kernel
theorem dX12_doesOrder_84 : decode cX12_doesOrder 84 = .ok (.aload_n 0, 1) := by decide +kernel
theorem dX12_doesOrder_85 : decode cX12_doesOrder 85 = .ok (.getfield 9, 3) := by decide +kernel
theorem dX12_doesOrder_88 : decode cX12_doesOrder 88 = .ok (.iload 5, 2) := by decide +kernel
theorem dX12_doesOrder_90 : decode cX12_doesOrder 90 = .ok (.iload_n 1, 1) := by decide +kernel
theorem dX12_doesOrder_91 : decode cX12_doesOrder 91 = .ok (.iastore, 1) := by decide +kernel
theorem dX12_doesOrder_92 : decode cX12_doesOrder 92 = .ok (.aload_n 0, 1) := by decide +kernel
theorem dX12_doesOrder_93 : decode cX12_doesOrder 93 = .ok (.getfield 9, 3) := by decide +kernel
theorem dX12_doesOrder_96 : decode cX12_doesOrder 96 = .ok (.iload 5, 2) := by decide +kernel
theorem dX12_doesOrder_98 : decode cX12_doesOrder 98 = .ok (.iconst 1, 1) := by decide +kernel
theorem dX12_doesOrder_99 : decode cX12_doesOrder 99 = .ok (.iadd, 1) := by decide +kernel
theorem dX12_doesOrder_100 : decode cX12_doesOrder 100 = .ok (.iload_n 2, 1) := by decide +kernel
theorem dX12_doesOrder_101 : decode cX12_doesOrder 101 = .ok (.iastore, 1) := by decide +kernel
theorem dX12_doesOrder_102 : decode cX12_doesOrder 102 = .ok (.aload_n 0, 1) := by decide +kernel
theorem dX12_doesOrder_103 : decode cX12_doesOrder 103 = .ok (.getfield 9, 3) := by decide +kernel
theorem dX12_doesOrder_106 : decode cX12_doesOrder 106 = .ok (.iload 5, 2) := by decide +kernel
theorem dX12_doesOrder_108 : decode cX12_doesOrder 108 = .ok (.iconst 2, 1) := by decide +kernel
theorem dX12_doesOrder_109 : decode cX12_doesOrder 109 = .ok (.iadd, 1) := by decide +kernel
theorem dX12_doesOrder_110 : decode cX12_doesOrder 110 = .ok (.iload_n 3, 1) := by decide +kernel
theorem dX12_doesOrder_111 : decode cX12_doesOrder 111 = .ok (.iastore, 1) := by decide +kernel
theorem dX12_doesOrder_112 : decode cX12_doesOrder 112 = .ok (.aload_n 0, 1) := by decide +kernel
theorem dX12_doesOrder_113 : decode cX12_doesOrder 113 = .ok (.getfield 9, 3) := by decide +kernel
theorem dX12_doesOrder_116 : decode cX12_doesOrder 116 = .ok (.iload 5, 2) := by decide +kernel
theorem dX12_doesOrder_118 : decode cX12_doesOrder 118 = .ok (.iconst 3, 1) := by decide +kernel
theorem dX12_doesOrder_119 : decode cX12_doesOrder 119 = .ok (.iadd, 1) := by decide +kernel
theorem dX12_doesOrder_120 : decode cX12_doesOrder 120 = .ok (.iload 4, 2) := by decide +kernel
theorem dX12_doesOrder_122 : decode cX12_doesOrder 122 = .ok (.iastore, 1) := by decide +kernel
theorem dX12_doesOrder_123 : decode cX12_doesOrder 123 = .ok (.aload_n 0, 1) := by decide +kernel
theorem dX12_doesOrder_124 : decode cX12_doesOrder 124 = .ok (.getfield 9, 3) := by decide +kernel
theorem dX12_doesOrder_127 : decode cX12_doesOrder 127 = .ok (.iload 5, 2) := by decide +kernel
theorem dX12_doesOrder_129 : decode cX12_doesOrder 129 = .ok (.iconst 4, 1) := by decide +kernel
theorem dX12_doesOrder_130 : decode cX12_doesOrder 130 = .ok (.iadd, 1) := by decide +kernel
theorem dX12_doesOrder_131 : decode cX12_doesOrder 131 = .ok (.iconst 0, 1) := by decide +kernel
theorem dX12_doesOrder_132 : decode cX12_doesOrder 132 = .ok (.iastore, 1) := by decide +kernel
theorem dX12_doesOrder_133 : decode cX12_doesOrder 133 = .ok (.aload_n 0, 1) := by decide +kernel
theorem dX12_doesOrder_134 : decode cX12_doesOrder 134 = .ok (.getfield 9, 3) := by decide +kernel
theorem dX12_doesOrder_137 : decode cX12_doesOrder 137 = .ok (.iload 5, 2) := by decide +kernel
theorem dX12_doesOrder_139 : decode cX12_doesOrder 139 = .ok (.iconst 5, 1) := by decide +kernel
theorem dX12_doesOrder_140 : decode cX12_doesOrder 140 = .ok (.iadd, 1) := by decide +kernel
theorem dX12_doesOrder_141 : decode cX12_doesOrder 141 = .ok (.iconst 0, 1) := by decide +kernel
theorem dX12_doesOrder_142 : decode cX12_doesOrder 142 = .ok (.iastore, 1) := by decide +kernel
theorem dX12_doesOrder_143 : decode cX12_doesOrder 143 = .ok (.aload_n 0, 1) := by decide +kernel
theorem dX12_doesOrder_144 : decode cX12_doesOrder 144 = .ok (.aload_n 0, 1) := by decide +kernel
theorem dX12_doesOrder_145 : decode cX12_doesOrder 145 = .ok (.getfield 9, 3) := by decide +kernel
theorem dX12_doesOrder_148 : decode cX12_doesOrder 148 = .ok (.iconst 3, 1) := by decide +kernel
theorem dX12_doesOrder_149 : decode cX12_doesOrder 149 = .ok (.dup2, 1) := by decide +kernel
theorem dX12_doesOrder_150 : decode cX12_doesOrder 150 = .ok (.iaload, 1) := by decide +kernel
theorem dX12_doesOrder_151 : decode cX12_doesOrder 151 = .ok (.dup_x2, 1) := by decide +kernel
theorem dX12_doesOrder_152 : decode cX12_doesOrder 152 = .ok (.iconst 1, 1) := by decide +kernel
theorem dX12_doesOrder_153 : decode cX12_doesOrder 153 = .ok (.iadd, 1) := by decide +kernel
theorem dX12_doesOrder_154 : decode cX12_doesOrder 154 = .ok (.iastore, 1) := by decide +kernel
theorem dX12_doesOrder_155 : decode cX12_doesOrder 155 = .ok (.invokevirtual 79, 3) := by decide +kernel
theorem dX12_doesOrder_158 : decode cX12_doesOrder 158 = .ok (.ireturn, 1) := by decide +kernel
theorem dX12_opens_0 : decode cX12_opens 0 = .ok (.iconst 0, 1) := by decide +kernel
theorem dX12_opens_1 : decode cX12_opens 1 = .ok (.istore_n 1, 1) := by decide +kernel
theorem dX12_opens_2 : decode cX12_opens 2 = .ok (.iconst 0, 1) := by decide +kernel
theorem dX12_opens_3 : decode cX12_opens 3 = .ok (.istore_n 2, 1) := by decide +kernel
theorem dX12_opens_4 : decode cX12_opens 4 = .ok (.iload_n 2, 1) := by decide +kernel
theorem dX12_opens_5 : decode cX12_opens 5 = .ok (.aload_n 0, 1) := by decide +kernel
theorem dX12_opens_6 : decode cX12_opens 6 = .ok (.getfield 9, 3) := by decide +kernel
theorem dX12_opens_9 : decode cX12_opens 9 = .ok (.iconst 3, 1) := by decide +kernel
theorem dX12_opens_10 : decode cX12_opens 10 = .ok (.iaload, 1) := by decide +kernel
theorem dX12_opens_11 : decode cX12_opens 11 = .ok (.if_icmp .ge 21, 3) := by decide +kernel
theorem dX12_opens_14 : decode cX12_opens 14 = .ok (.aload_n 0, 1) := by decide +kernel
theorem dX12_opens_15 : decode cX12_opens 15 = .ok (.iload_n 2, 1) := by decide +kernel
theorem dX12_opens_16 : decode cX12_opens 16 = .ok (.iconst 4, 1) := by decide +kernel
theorem dX12_opens_17 : decode cX12_opens 17 = .ok (.invokevirtual 118, 3) := by decide +kernel
theorem dX12_opens_20 : decode cX12_opens 20 = .ok (.ifCond .ne 6, 3) := by decide +kernel
theorem dX12_opens_23 : decode cX12_opens 23 = .ok (.iinc 1 1, 3) := by decide +kernel
theorem dX12_opens_26 : decode cX12_opens 26 = .ok (.iinc 2 1, 3) := by decide +kernel
theorem dX12_opens_29 : decode cX12_opens 29 = .ok (.goto (-25), 3) := by decide +kernel
theorem dX12_opens_32 : decode cX12_opens 32 = .ok (.iload_n 1, 1) := by decide +kernel
theorem dX12_opens_33 : decode cX12_opens 33 = .ok (.ireturn, 1) := by decide +kernel
theorem dX12_doesCallOff_0 : decode cX12_doesCallOff 0 = .ok (.aload_n 0, 1) := by decide +kernel
theorem dX12_doesCallOff_1 : decode cX12_doesCallOff 1 = .ok (.iload_n 1, 1) := by decide +kernel
theorem dX12_doesCallOff_2 : decode cX12_doesCallOff 2 = .ok (.invokevirtual 121, 3) := by decide +kernel
theorem dX12_doesCallOff_5 : decode cX12_doesCallOff 5 = .ok (.ifCond .ne 10, 3) := by decide +kernel
theorem dX12_doesCallOff_8 : decode cX12_doesCallOff 8 = .ok (.aload_n 0, 1) := by decide +kernel
theorem dX12_doesCallOff_9 : decode cX12_doesCallOff 9 = .ok (.iconst 1, 1) := by decide +kernel
theorem dX12_doesCallOff_10 : decode cX12_doesCallOff 10 = .ok (.iconst 0, 1) := by decide +kernel
theorem dX12_doesCallOff_11 : decode cX12_doesCallOff 11 = .ok (.invokevirtual 75, 3) := by decide +kernel
theorem dX12_doesCallOff_14 : decode cX12_doesCallOff 14 = .ok (.ireturn, 1) := by decide +kernel
theorem dX12_doesCallOff_15 : decode cX12_doesCallOff 15 = .ok (.aload_n 0, 1) := by decide +kernel
theorem dX12_doesCallOff_16 : decode cX12_doesCallOff 16 = .ok (.iload_n 1, 1) := by decide +kernel
theorem dX12_doesCallOff_17 : decode cX12_doesCallOff 17 = .ok (.iconst 4, 1) := by decide +kernel
theorem dX12_doesCallOff_18 : decode cX12_doesCallOff 18 = .ok (.invokevirtual 118, 3) := by decide +kernel
theorem dX12_doesCallOff_21 : decode cX12_doesCallOff 21 = .ok (.ifCond .eq 11, 3) := by decide +kernel
theorem dX12_doesCallOff_24 : decode cX12_doesCallOff 24 = .ok (.aload_n 0, 1) := by decide +kernel
theorem dX12_doesCallOff_25 : decode cX12_doesCallOff 25 = .ok (.bipush 9, 2) := by decide +kernel
theorem dX12_doesCallOff_27 : decode cX12_doesCallOff 27 = .ok (.iconst 0, 1) := by decide +kernel
theorem dX12_doesCallOff_28 : decode cX12_doesCallOff 28 = .ok (.invokevirtual 75, 3) := by decide +kernel
theorem dX12_doesCallOff_31 : decode cX12_doesCallOff 31 = .ok (.ireturn, 1) := by decide +kernel
theorem dX12_doesCallOff_32 : decode cX12_doesCallOff 32 = .ok (.aload_n 0, 1) := by decide +kernel
theorem dX12_doesCallOff_33 : decode cX12_doesCallOff 33 = .ok (.getfield 9, 3) := by decide +kernel
theorem dX12_doesCallOff_36 : decode cX12_doesCallOff 36 = .ok (.sipush 253, 3) := by decide +kernel
theorem dX12_doesCallOff_39 : decode cX12_doesCallOff 39 = .ok (.bipush 6, 2) := by decide +kernel
theorem dX12_doesCallOff_41 : decode cX12_doesCallOff 41 = .ok (.iload_n 1, 1) := by decide +kernel
theorem dX12_doesCallOff_42 : decode cX12_doesCallOff 42 = .ok (.imul, 1) := by decide +kernel
theorem dX12_doesCallOff_43 : decode cX12_doesCallOff 43 = .ok (.iadd, 1) := by decide +kernel
theorem dX12_doesCallOff_44 : decode cX12_doesCallOff 44 = .ok (.iconst 4, 1) := by decide +kernel
theorem dX12_doesCallOff_45 : decode cX12_doesCallOff 45 = .ok (.iadd, 1) := by decide +kernel
theorem dX12_doesCallOff_46 : decode cX12_doesCallOff 46 = .ok (.iconst 2, 1) := by decide +kernel
theorem dX12_doesCallOff_47 : decode cX12_doesCallOff 47 = .ok (.iastore, 1) := by decide +kernel
theorem dX12_doesCallOff_48 : decode cX12_doesCallOff 48 = .ok (.aload_n 0, 1) := by decide +kernel
theorem dX12_doesCallOff_49 : decode cX12_doesCallOff 49 = .ok (.aload_n 0, 1) := by decide +kernel
theorem dX12_doesCallOff_50 : decode cX12_doesCallOff 50 = .ok (.invokevirtual 124, 3) := by decide +kernel
theorem dX12_doesCallOff_53 : decode cX12_doesCallOff 53 = .ok (.invokevirtual 79, 3) := by decide +kernel
theorem dX12_doesCallOff_56 : decode cX12_doesCallOff 56 = .ok (.ireturn, 1) := by decide +kernel
theorem dX12_doesSet_0 : decode cX12_doesSet 0 = .ok (.iload_n 1, 1) := by decide +kernel
theorem dX12_doesSet_1 : decode cX12_doesSet 1 = .ok (.ifCond .ne 8, 3) := by decide +kernel
theorem dX12_doesSet_4 : decode cX12_doesSet 4 = .ok (.bipush 60, 2) := by decide +kernel
theorem dX12_doesSet_6 : decode cX12_doesSet 6 = .ok (.goto 4, 3) := by decide +kernel
theorem dX12_doesSet_9 : decode cX12_doesSet 9 = .ok (.iconst 0, 1) := by decide +kernel
theorem dX12_doesSet_10 : decode cX12_doesSet 10 = .ok (.istore_n 3, 1) := by decide +kernel
theorem dX12_doesSet_11 : decode cX12_doesSet 11 = .ok (.iload_n 1, 1) := by decide +kernel
theorem dX12_doesSet_12 : decode cX12_doesSet 12 = .ok (.ifCond .ne 9, 3) := by decide +kernel
theorem dX12_doesSet_15 : decode cX12_doesSet 15 = .ok (.sipush 9999, 3) := by decide +kernel
theorem dX12_doesSet_18 : decode cX12_doesSet 18 = .ok (.goto 25, 3) := by decide +kernel
theorem dX12_doesSet_21 : decode cX12_doesSet 21 = .ok (.iload_n 1, 1) := by decide +kernel
theorem dX12_doesSet_22 : decode cX12_doesSet 22 = .ok (.iconst 1, 1) := by decide +kernel
theorem dX12_doesSet_23 : decode cX12_doesSet 23 = .ok (.if_icmp .ne 9, 3) := by decide +kernel
theorem dX12_doesSet_26 : decode cX12_doesSet 26 = .ok (.sipush 999, 3) := by decide +kernel
theorem dX12_doesSet_29 : decode cX12_doesSet 29 = .ok (.goto 14, 3) := by decide +kernel
theorem dX12_doesSet_32 : decode cX12_doesSet 32 = .ok (.iload_n 1, 1) := by decide +kernel
theorem dX12_doesSet_33 : decode cX12_doesSet 33 = .ok (.iconst 2, 1) := by decide +kernel
theorem dX12_doesSet_34 : decode cX12_doesSet 34 = .ok (.if_icmp .ne 7, 3) := by decide +kernel
theorem dX12_doesSet_37 : decode cX12_doesSet 37 = .ok (.iconst 5, 1) := by decide +kernel
theorem dX12_doesSet_38 : decode cX12_doesSet 38 = .ok (.goto 5, 3) := by decide +kernel
theorem dX12_doesSet_41 : decode cX12_doesSet 41 = .ok (.bipush 99, 2) := by decide +kernel
theorem dX12_doesSet_43 : decode cX12_doesSet 43 = .ok (.istore 4, 2) := by decide +kernel
theorem dX12_doesSet_45 : decode cX12_doesSet 45 = .ok (.iload_n 1, 1) := by decide +kernel
theorem dX12_doesSet_46 : decode cX12_doesSet 46 = .ok (.iconst 0, 1) := by decide +kernel
theorem dX12_doesSet_47 : decode cX12_doesSet 47 = .ok (.iconst 3, 1) := by decide +kernel
theorem dX12_doesSet_48 : decode cX12_doesSet 48 = .ok (.invokestatic 64, 3) := by decide +kernel
theorem dX12_doesSet_51 : decode cX12_doesSet 51 = .ok (.ifCond .eq 13, 3) := by decide +kernel
theorem dX12_doesSet_54 : decode cX12_doesSet 54 = .ok (.iload_n 2, 1) := by decide +kernel
theorem dX12_doesSet_55 : decode cX12_doesSet 55 = .ok (.iload_n 3, 1) := by decide +kernel
theorem dX12_doesSet_56 : decode cX12_doesSet 56 = .ok (.iload 4, 2) := by decide +kernel
theorem dX12_doesSet_58 : decode cX12_doesSet 58 = .ok (.invokestatic 64, 3) := by decide +kernel
theorem dX12_doesSet_61 : decode cX12_doesSet 61 = .ok (.ifCond .ne 10, 3) := by decide +kernel
theorem dX12_doesSet_64 : decode cX12_doesSet 64 = .ok (.aload_n 0, 1) := by decide +kernel
theorem dX12_doesSet_65 : decode cX12_doesSet 65 = .ok (.iconst 2, 1) := by decide +kernel
theorem dX12_doesSet_66 : decode cX12_doesSet 66 = .ok (.iconst 0, 1) := by decide +kernel
theorem dX12_doesSet_67 : decode cX12_doesSet 67 = .ok (.invokevirtual 75, 3) := by decide +kernel
theorem dX12_doesSet_70 : decode cX12_doesSet 70 = .ok (.ireturn, 1) := by decide +kernel
theorem dX12_doesSet_71 : decode cX12_doesSet 71 = .ok (.aload_n 0, 1) := by decide +kernel
theorem dX12_doesSet_72 : decode cX12_doesSet 72 = .ok (.getfield 9, 3) := by decide +kernel
theorem dX12_doesSet_75 : decode cX12_doesSet 75 = .ok (.bipush 12, 2) := by decide +kernel
theorem dX12_doesSet_77 : decode cX12_doesSet 77 = .ok (.iload_n 1, 1) := by decide +kernel
theorem dX12_doesSet_78 : decode cX12_doesSet 78 = .ok (.iadd, 1) := by decide +kernel
theorem dX12_doesSet_79 : decode cX12_doesSet 79 = .ok (.iaload, 1) := by decide +kernel
theorem dX12_doesSet_80 : decode cX12_doesSet 80 = .ok (.istore 5, 2) := by decide +kernel
theorem dX12_doesSet_82 : decode cX12_doesSet 82 = .ok (.aload_n 0, 1) := by decide +kernel
theorem dX12_doesSet_83 : decode cX12_doesSet 83 = .ok (.getfield 9, 3) := by decide +kernel
theorem dX12_doesSet_86 : decode cX12_doesSet 86 = .ok (.bipush 12, 2) := by decide +kernel
theorem dX12_doesSet_88 : decode cX12_doesSet 88 = .ok (.iload_n 1, 1) := by decide +kernel
theorem dX12_doesSet_89 : decode cX12_doesSet 89 = .ok (.iadd, 1) := by decide +kernel
theorem dX12_doesSet_90 : decode cX12_doesSet 90 = .ok (.iload_n 2, 1) := by decide +kernel
theorem dX12_doesSet_91 : decode cX12_doesSet 91 = .ok (.iastore, 1) := by decide +kernel
theorem dX12_doesSet_92 : decode cX12_doesSet 92 = .ok (.aload_n 0, 1) := by decide +kernel
theorem dX12_doesSet_93 : decode cX12_doesSet 93 = .ok (.iload 5, 2) := by decide +kernel
theorem dX12_doesSet_95 : decode cX12_doesSet 95 = .ok (.invokevirtual 79, 3) := by decide +kernel
theorem dX12_doesSet_98 : decode cX12_doesSet 98 = .ok (.ireturn, 1) := by decide +kernel
theorem dX12_append_0 : decode cX12_append 0 = .ok (.aload_n 0, 1) := by decide +kernel
theorem dX12_append_1 : decode cX12_append 1 = .ok (.iconst 0, 1) := by decide +kernel
theorem dX12_append_2 : decode cX12_append 2 = .ok (.putfield 45, 3) := by decide +kernel
theorem dX12_append_5 : decode cX12_append 5 = .ok (.aload_n 0, 1) := by decide +kernel
theorem dX12_append_6 : decode cX12_append 6 = .ok (.getfield 128, 3) := by decide +kernel
theorem dX12_append_9 : decode cX12_append 9 = .ok (.bipush 80, 2) := by decide +kernel
theorem dX12_append_11 : decode cX12_append 11 = .ok (.if_icmp .ne 9, 3) := by decide +kernel
theorem dX12_append_14 : decode cX12_append 14 = .ok (.aload_n 0, 1) := by decide +kernel
theorem dX12_append_15 : decode cX12_append 15 = .ok (.iconst 1, 1) := by decide +kernel
theorem dX12_append_16 : decode cX12_append 16 = .ok (.invokevirtual 54, 3) := by decide +kernel
theorem dX12_append_19 : decode cX12_append 19 = .ok (.ireturn, 1) := by decide +kernel
theorem dX12_append_20 : decode cX12_append 20 = .ok (.aload_n 0, 1) := by decide +kernel
theorem dX12_append_21 : decode cX12_append 21 = .ok (.getfield 22, 3) := by decide +kernel
theorem dX12_append_24 : decode cX12_append 24 = .ok (.aload_n 0, 1) := by decide +kernel
theorem dX12_append_25 : decode cX12_append 25 = .ok (.dup, 1) := by decide +kernel
theorem dX12_append_26 : decode cX12_append 26 = .ok (.getfield 128, 3) := by decide +kernel
theorem dX12_append_29 : decode cX12_append 29 = .ok (.dup_x1, 1) := by decide +kernel
theorem dX12_append_30 : decode cX12_append 30 = .ok (.iconst 1, 1) := by decide +kernel
theorem dX12_append_31 : decode cX12_append 31 = .ok (.iadd, 1) := by decide +kernel
theorem dX12_append_32 : decode cX12_append 32 = .ok (.putfield 128, 3) := by decide +kernel
theorem dX12_append_35 : decode cX12_append 35 = .ok (.iload_n 1, 1) := by decide +kernel
theorem dX12_append_36 : decode cX12_append 36 = .ok (.castore, 1) := by decide +kernel
theorem dX12_append_37 : decode cX12_append 37 = .ok (.aload_n 0, 1) := by decide +kernel
theorem dX12_append_38 : decode cX12_append 38 = .ok (.getfield 128, 3) := by decide +kernel
theorem dX12_append_41 : decode cX12_append 41 = .ok (.ireturn, 1) := by decide +kernel
theorem dX12_colour_0 : decode cX12_colour 0 = .ok (.aload_n 0, 1) := by decide +kernel
theorem dX12_colour_1 : decode cX12_colour 1 = .ok (.invokevirtual 131, 3) := by decide +kernel
theorem dX12_colour_4 : decode cX12_colour 4 = .ok (.aload_n 0, 1) := by decide +kernel
theorem dX12_colour_5 : decode cX12_colour 5 = .ok (.aload_n 0, 1) := by decide +kernel
theorem dX12_colour_6 : decode cX12_colour 6 = .ok (.iload_n 1, 1) := by decide +kernel
theorem dX12_colour_7 : decode cX12_colour 7 = .ok (.invokevirtual 134, 3) := by decide +kernel
theorem dX12_colour_10 : decode cX12_colour 10 = .ok (.invokevirtual 137, 3) := by decide +kernel
theorem dX12_colour_13 : decode cX12_colour 13 = .ok (.ireturn, 1) := by decide +kernel
theorem dX12_part_0 : decode cX12_part 0 = .ok (.aload_n 0, 1) := by decide +kernel
theorem dX12_part_1 : decode cX12_part 1 = .ok (.invokevirtual 131, 3) := by decide +kernel
theorem dX12_part_4 : decode cX12_part 4 = .ok (.aload_n 0, 1) := by decide +kernel
theorem dX12_part_5 : decode cX12_part 5 = .ok (.aload_n 0, 1) := by decide +kernel
theorem dX12_part_6 : decode cX12_part 6 = .ok (.iload_n 1, 1) := by decide +kernel
theorem dX12_part_7 : decode cX12_part 7 = .ok (.invokevirtual 141, 3) := by decide +kernel
theorem dX12_part_10 : decode cX12_part 10 = .ok (.invokevirtual 137, 3) := by decide +kernel
theorem dX12_part_13 : decode cX12_part 13 = .ok (.ireturn, 1) := by decide +kernel
theorem dX12_mount_0 : decode cX12_mount 0 = .ok (.aload_n 0, 1) := by decide +kernel
theorem dX12_mount_1 : decode cX12_mount 1 = .ok (.invokevirtual 131, 3) := by decide +kernel
theorem dX12_mount_4 : decode cX12_mount 4 = .ok (.aload_n 0, 1) := by decide +kernel
theorem dX12_mount_5 : decode cX12_mount 5 = .ok (.aload_n 0, 1) := by decide +kernel
theorem dX12_mount_6 : decode cX12_mount 6 = .ok (.iload_n 1, 1) := by decide +kernel
theorem dX12_mount_7 : decode cX12_mount 7 = .ok (.invokevirtual 144, 3) := by decide +kernel
theorem dX12_mount_10 : decode cX12_mount 10 = .ok (.invokevirtual 137, 3) := by decide +kernel
theorem dX12_mount_13 : decode cX12_mount 13 = .ok (.ireturn, 1) := by decide +kernel
theorem dX12_load_0 : decode cX12_load 0 = .ok (.aload_n 0, 1) := by decide +kernel
theorem dX12_load_1 : decode cX12_load 1 = .ok (.invokevirtual 131, 3) := by decide +kernel
theorem dX12_load_4 : decode cX12_load 4 = .ok (.aload_n 0, 1) := by decide +kernel
theorem dX12_load_5 : decode cX12_load 5 = .ok (.aload_n 0, 1) := by decide +kernel
theorem dX12_load_6 : decode cX12_load 6 = .ok (.iload_n 1, 1) := by decide +kernel
theorem dX12_load_7 : decode cX12_load 7 = .ok (.iload_n 2, 1) := by decide +kernel
theorem dX12_load_8 : decode cX12_load 8 = .ok (.iload_n 3, 1) := by decide +kernel
theorem dX12_load_9 : decode cX12_load 9 = .ok (.invokevirtual 147, 3) := by decide +kernel
theorem dX12_load_12 : decode cX12_load 12 = .ok (.invokevirtual 137, 3) := by decide +kernel
theorem dX12_load_15 : decode cX12_load 15 = .ok (.ireturn, 1) := by decide +kernel
theorem dX12_empty_0 : decode cX12_empty 0 = .ok (.aload_n 0, 1) := by decide +kernel
theorem dX12_empty_1 : decode cX12_empty 1 = .ok (.invokevirtual 131, 3) := by decide +kernel
theorem dX12_empty_4 : decode cX12_empty 4 = .ok (.aload_n 0, 1) := by decide +kernel
theorem dX12_empty_5 : decode cX12_empty 5 = .ok (.aload_n 0, 1) := by decide +kernel
theorem dX12_empty_6 : decode cX12_empty 6 = .ok (.iload_n 1, 1) := by decide +kernel
theorem dX12_empty_7 : decode cX12_empty 7 = .ok (.invokevirtual 150, 3) := by decide +kernel
theorem dX12_empty_10 : decode cX12_empty 10 = .ok (.invokevirtual 137, 3) := by decide +kernel
theorem dX12_empty_13 : decode cX12_empty 13 = .ok (.ireturn, 1) := by decide +kernel
theorem dX12_pause_0 : decode cX12_pause 0 = .ok (.aload_n 0, 1) := by decide +kernel
theorem dX12_pause_1 : decode cX12_pause 1 = .ok (.invokevirtual 131, 3) := by decide +kernel
theorem dX12_pause_4 : decode cX12_pause 4 = .ok (.aload_n 0, 1) := by decide +kernel
theorem dX12_pause_5 : decode cX12_pause 5 = .ok (.aload_n 0, 1) := by decide +kernel
theorem dX12_pause_6 : decode cX12_pause 6 = .ok (.iload_n 1, 1) := by decide +kernel
theorem dX12_pause_7 : decode cX12_pause 7 = .ok (.invokevirtual 153, 3) := by decide +kernel
theorem dX12_pause_10 : decode cX12_pause 10 = .ok (.invokevirtual 137, 3) := by decide +kernel
theorem dX12_pause_13 : decode cX12_pause 13 = .ok (.ireturn, 1) := by decide +kernel
theorem dX12_run_0 : decode cX12_run 0 = .ok (.aload_n 0, 1) := by decide +kernel
theorem dX12_run_1 : decode cX12_run 1 = .ok (.invokevirtual 131, 3) := by decide +kernel
theorem dX12_run_4 : decode cX12_run 4 = .ok (.aload_n 0, 1) := by decide +kernel
theorem dX12_run_5 : decode cX12_run 5 = .ok (.aload_n 0, 1) := by decide +kernel
theorem dX12_run_6 : decode cX12_run 6 = .ok (.iload_n 1, 1) := by decide +kernel
theorem dX12_run_7 : decode cX12_run 7 = .ok (.iload_n 2, 1) := by decide +kernel
theorem dX12_run_8 : decode cX12_run 8 = .ok (.invokevirtual 156, 3) := by decide +kernel
theorem dX12_run_11 : decode cX12_run 11 = .ok (.invokevirtual 137, 3) := by decide +kernel
theorem dX12_run_14 : decode cX12_run 14 = .ok (.ireturn, 1) := by decide +kernel
theorem dX12_order_0 : decode cX12_order 0 = .ok (.aload_n 0, 1) := by decide +kernel
theorem dX12_order_1 : decode cX12_order 1 = .ok (.invokevirtual 131, 3) := by decide +kernel
theorem dX12_order_4 : decode cX12_order 4 = .ok (.aload_n 0, 1) := by decide +kernel
theorem dX12_order_5 : decode cX12_order 5 = .ok (.aload_n 0, 1) := by decide +kernel
theorem dX12_order_6 : decode cX12_order 6 = .ok (.iload_n 1, 1) := by decide +kernel
theorem dX12_order_7 : decode cX12_order 7 = .ok (.iload_n 2, 1) := by decide +kernel
theorem dX12_order_8 : decode cX12_order 8 = .ok (.iload_n 3, 1) := by decide +kernel
theorem dX12_order_9 : decode cX12_order 9 = .ok (.iload 4, 2) := by decide +kernel
theorem dX12_order_11 : decode cX12_order 11 = .ok (.invokevirtual 159, 3) := by decide +kernel
theorem dX12_order_14 : decode cX12_order 14 = .ok (.invokevirtual 137, 3) := by decide +kernel
theorem dX12_order_17 : decode cX12_order 17 = .ok (.ireturn, 1) := by decide +kernel
theorem dX12_callOff_0 : decode cX12_callOff 0 = .ok (.aload_n 0, 1) := by decide +kernel
theorem dX12_callOff_1 : decode cX12_callOff 1 = .ok (.invokevirtual 131, 3) := by decide +kernel
theorem dX12_callOff_4 : decode cX12_callOff 4 = .ok (.aload_n 0, 1) := by decide +kernel
theorem dX12_callOff_5 : decode cX12_callOff 5 = .ok (.aload_n 0, 1) := by decide +kernel
theorem dX12_callOff_6 : decode cX12_callOff 6 = .ok (.iload_n 1, 1) := by decide +kernel
theorem dX12_callOff_7 : decode cX12_callOff 7 = .ok (.invokevirtual 163, 3) := by decide +kernel
theorem dX12_callOff_10 : decode cX12_callOff 10 = .ok (.invokevirtual 137, 3) := by decide +kernel
theorem dX12_callOff_13 : decode cX12_callOff 13 = .ok (.ireturn, 1) := by decide +kernel
theorem dX12_set_0 : decode cX12_set 0 = .ok (.aload_n 0, 1) := by decide +kernel
theorem dX12_set_1 : decode cX12_set 1 = .ok (.invokevirtual 131, 3) := by decide +kernel
theorem dX12_set_4 : decode cX12_set 4 = .ok (.aload_n 0, 1) := by decide +kernel
theorem dX12_set_5 : decode cX12_set 5 = .ok (.aload_n 0, 1) := by decide +kernel
theorem dX12_set_6 : decode cX12_set 6 = .ok (.iload_n 1, 1) := by decide +kernel
theorem dX12_set_7 : decode cX12_set 7 = .ok (.iload_n 2, 1) := by decide +kernel
theorem dX12_set_8 : decode cX12_set 8 = .ok (.invokevirtual 166, 3) := by decide +kernel
theorem dX12_set_11 : decode cX12_set 11 = .ok (.invokevirtual 137, 3) := by decide +kernel
theorem dX12_set_14 : decode cX12_set 14 = .ok (.ireturn, 1) := by decide +kernel
theorem dX12_takes_0 : decode cX12_takes 0 = .ok (.aload_n 0, 1) := by decide +kernel
theorem dX12_takes_1 : decode cX12_takes 1 = .ok (.getfield 169, 3) := by decide +kernel
theorem dX12_takes_4 : decode cX12_takes 4 = .ok (.aload_n 0, 1) := by decide +kernel
theorem dX12_takes_5 : decode cX12_takes 5 = .ok (.getfield 128, 3) := by decide +kernel
theorem dX12_takes_8 : decode cX12_takes 8 = .ok (.if_icmp .eq 16, 3) := by decide +kernel
theorem dX12_takes_11 : decode cX12_takes 11 = .ok (.aload_n 0, 1) := by decide +kernel
theorem dX12_takes_12 : decode cX12_takes 12 = .ok (.getfield 22, 3) := by decide +kernel
theorem dX12_takes_15 : decode cX12_takes 15 = .ok (.aload_n 0, 1) := by decide +kernel
theorem dX12_takes_16 : decode cX12_takes 16 = .ok (.getfield 169, 3) := by decide +kernel
theorem dX12_takes_19 : decode cX12_takes 19 = .ok (.caload, 1) := by decide +kernel
theorem dX12_takes_20 : decode cX12_takes 20 = .ok (.iload_n 1, 1) := by decide +kernel
theorem dX12_takes_21 : decode cX12_takes 21 = .ok (.if_icmp .eq 5, 3) := by decide +kernel
theorem dX12_takes_24 : decode cX12_takes 24 = .ok (.iconst 0, 1) := by decide +kernel
theorem dX12_takes_25 : decode cX12_takes 25 = .ok (.ireturn, 1) := by decide +kernel
theorem dX12_takes_26 : decode cX12_takes 26 = .ok (.aload_n 0, 1) := by decide +kernel
theorem dX12_takes_27 : decode cX12_takes 27 = .ok (.dup, 1) := by decide +kernel
theorem dX12_takes_28 : decode cX12_takes 28 = .ok (.getfield 169, 3) := by decide +kernel
theorem dX12_takes_31 : decode cX12_takes 31 = .ok (.iconst 1, 1) := by decide +kernel
theorem dX12_takes_32 : decode cX12_takes 32 = .ok (.iadd, 1) := by decide +kernel
theorem dX12_takes_33 : decode cX12_takes 33 = .ok (.putfield 169, 3) := by decide +kernel
theorem dX12_takes_36 : decode cX12_takes 36 = .ok (.iconst 1, 1) := by decide +kernel
theorem dX12_takes_37 : decode cX12_takes 37 = .ok (.ireturn, 1) := by decide +kernel
theorem dX12_number_0 : decode cX12_number 0 = .ok (.iconst 0, 1) := by decide +kernel
theorem dX12_number_1 : decode cX12_number 1 = .ok (.istore_n 3, 1) := by decide +kernel
theorem dX12_number_2 : decode cX12_number 2 = .ok (.iconst 0, 1) := by decide +kernel
theorem dX12_number_3 : decode cX12_number 3 = .ok (.istore 4, 2) := by decide +kernel
theorem dX12_number_5 : decode cX12_number 5 = .ok (.iload_n 3, 1) := by decide +kernel
theorem dX12_number_6 : decode cX12_number 6 = .ok (.iload_n 2, 1) := by decide +kernel
theorem dX12_number_7 : decode cX12_number 7 = .ok (.if_icmp .ge 69, 3) := by decide +kernel
theorem dX12_number_10 : decode cX12_number 10 = .ok (.aload_n 0, 1) := by decide +kernel
theorem dX12_number_11 : decode cX12_number 11 = .ok (.getfield 169, 3) := by decide +kernel
theorem dX12_number_14 : decode cX12_number 14 = .ok (.aload_n 0, 1) := by decide +kernel
theorem dX12_number_15 : decode cX12_number 15 = .ok (.getfield 128, 3) := by decide +kernel
theorem dX12_number_18 : decode cX12_number 18 = .ok (.if_icmp .ge 58, 3) := by decide +kernel
theorem dX12_number_21 : decode cX12_number 21 = .ok (.aload_n 0, 1) := by decide +kernel
theorem dX12_number_22 : decode cX12_number 22 = .ok (.getfield 22, 3) := by decide +kernel
theorem dX12_number_25 : decode cX12_number 25 = .ok (.aload_n 0, 1) := by decide +kernel
theorem dX12_number_26 : decode cX12_number 26 = .ok (.getfield 169, 3) := by decide +kernel
theorem dX12_number_29 : decode cX12_number 29 = .ok (.caload, 1) := by decide +kernel
theorem dX12_number_30 : decode cX12_number 30 = .ok (.bipush 48, 2) := by decide +kernel
theorem dX12_number_32 : decode cX12_number 32 = .ok (.bipush 57, 2) := by decide +kernel
theorem dX12_number_34 : decode cX12_number 34 = .ok (.invokestatic 64, 3) := by decide +kernel
theorem dX12_number_37 : decode cX12_number 37 = .ok (.ifCond .eq 39, 3) := by decide +kernel
theorem dX12_number_40 : decode cX12_number 40 = .ok (.bipush 10, 2) := by decide +kernel
theorem dX12_number_42 : decode cX12_number 42 = .ok (.iload 4, 2) := by decide +kernel
theorem dX12_number_44 : decode cX12_number 44 = .ok (.imul, 1) := by decide +kernel
theorem dX12_number_45 : decode cX12_number 45 = .ok (.aload_n 0, 1) := by decide +kernel
theorem dX12_number_46 : decode cX12_number 46 = .ok (.getfield 22, 3) := by decide +kernel
theorem dX12_number_49 : decode cX12_number 49 = .ok (.aload_n 0, 1) := by decide +kernel
theorem dX12_number_50 : decode cX12_number 50 = .ok (.getfield 169, 3) := by decide +kernel
theorem dX12_number_53 : decode cX12_number 53 = .ok (.caload, 1) := by decide +kernel
theorem dX12_number_54 : decode cX12_number 54 = .ok (.iadd, 1) := by decide +kernel
theorem dX12_number_55 : decode cX12_number 55 = .ok (.bipush 48, 2) := by decide +kernel
theorem dX12_number_57 : decode cX12_number 57 = .ok (.isub, 1) := by decide +kernel
theorem dX12_number_58 : decode cX12_number 58 = .ok (.istore 4, 2) := by decide +kernel
theorem dX12_number_60 : decode cX12_number 60 = .ok (.aload_n 0, 1) := by decide +kernel
theorem dX12_number_61 : decode cX12_number 61 = .ok (.dup, 1) := by decide +kernel
theorem dX12_number_62 : decode cX12_number 62 = .ok (.getfield 169, 3) := by decide +kernel
theorem dX12_number_65 : decode cX12_number 65 = .ok (.iconst 1, 1) := by decide +kernel
theorem dX12_number_66 : decode cX12_number 66 = .ok (.iadd, 1) := by decide +kernel
theorem dX12_number_67 : decode cX12_number 67 = .ok (.putfield 169, 3) := by decide +kernel
theorem dX12_number_70 : decode cX12_number 70 = .ok (.iinc 3 1, 3) := by decide +kernel
theorem dX12_number_73 : decode cX12_number 73 = .ok (.goto (-68), 3) := by decide +kernel
theorem dX12_number_76 : decode cX12_number 76 = .ok (.aload_n 0, 1) := by decide +kernel
theorem dX12_number_77 : decode cX12_number 77 = .ok (.getfield 36, 3) := by decide +kernel
theorem dX12_number_80 : decode cX12_number 80 = .ok (.iload_n 1, 1) := by decide +kernel
theorem dX12_number_81 : decode cX12_number 81 = .ok (.iload 4, 2) := by decide +kernel
theorem dX12_number_83 : decode cX12_number 83 = .ok (.iastore, 1) := by decide +kernel
theorem dX12_number_84 : decode cX12_number 84 = .ok (.iload_n 3, 1) := by decide +kernel
theorem dX12_number_85 : decode cX12_number 85 = .ok (.ifCond .le 7, 3) := by decide +kernel
theorem dX12_number_88 : decode cX12_number 88 = .ok (.iconst 1, 1) := by decide +kernel
theorem dX12_number_89 : decode cX12_number 89 = .ok (.goto 4, 3) := by decide +kernel
theorem dX12_number_92 : decode cX12_number 92 = .ok (.iconst 0, 1) := by decide +kernel
theorem dX12_number_93 : decode cX12_number 93 = .ok (.ireturn, 1) := by decide +kernel
theorem dX12_isFamilyText_0 : decode cX12_isFamilyText 0 = .ok (.aload_n 0, 1) := by decide +kernel
theorem dX12_isFamilyText_1 : decode cX12_isFamilyText 1 = .ok (.iconst 0, 1) := by decide +kernel
theorem dX12_isFamilyText_2 : decode cX12_isFamilyText 2 = .ok (.iconst 2, 1) := by decide +kernel
theorem dX12_isFamilyText_3 : decode cX12_isFamilyText 3 = .ok (.invokevirtual 172, 3) := by decide +kernel
theorem dX12_isFamilyText_6 : decode cX12_isFamilyText 6 = .ok (.ifCond .eq 21, 3) := by decide +kernel
theorem dX12_isFamilyText_9 : decode cX12_isFamilyText 9 = .ok (.aload_n 0, 1) := by decide +kernel
theorem dX12_isFamilyText_10 : decode cX12_isFamilyText 10 = .ok (.bipush 32, 2) := by decide +kernel
theorem dX12_isFamilyText_12 : decode cX12_isFamilyText 12 = .ok (.invokevirtual 175, 3) := by decide +kernel
theorem dX12_isFamilyText_15 : decode cX12_isFamilyText 15 = .ok (.ifCond .eq 12, 3) := by decide +kernel
theorem dX12_isFamilyText_18 : decode cX12_isFamilyText 18 = .ok (.aload_n 0, 1) := by decide +kernel
theorem dX12_isFamilyText_19 : decode cX12_isFamilyText 19 = .ok (.iconst 1, 1) := by decide +kernel
theorem dX12_isFamilyText_20 : decode cX12_isFamilyText 20 = .ok (.iconst 3, 1) := by decide +kernel
theorem dX12_isFamilyText_21 : decode cX12_isFamilyText 21 = .ok (.invokevirtual 172, 3) := by decide +kernel
theorem dX12_isFamilyText_24 : decode cX12_isFamilyText 24 = .ok (.ifCond .ne 5, 3) := by decide +kernel
theorem dX12_isFamilyText_27 : decode cX12_isFamilyText 27 = .ok (.iconst 0, 1) := by decide +kernel
theorem dX12_isFamilyText_28 : decode cX12_isFamilyText 28 = .ok (.ireturn, 1) := by decide +kernel
theorem dX12_isFamilyText_29 : decode cX12_isFamilyText 29 = .ok (.iconst 0, 1) := by decide +kernel
theorem dX12_isFamilyText_30 : decode cX12_isFamilyText 30 = .ok (.istore_n 1, 1) := by decide +kernel
theorem dX12_isFamilyText_31 : decode cX12_isFamilyText 31 = .ok (.iload_n 1, 1) := by decide +kernel
theorem dX12_isFamilyText_32 : decode cX12_isFamilyText 32 = .ok (.ifCond .eq 19, 3) := by decide +kernel
theorem dX12_isFamilyText_35 : decode cX12_isFamilyText 35 = .ok (.iload_n 1, 1) := by decide +kernel
theorem dX12_isFamilyText_36 : decode cX12_isFamilyText 36 = .ok (.iconst 3, 1) := by decide +kernel
theorem dX12_isFamilyText_37 : decode cX12_isFamilyText 37 = .ok (.if_icmp .ge 63, 3) := by decide +kernel
theorem dX12_isFamilyText_40 : decode cX12_isFamilyText 40 = .ok (.aload_n 0, 1) := by decide +kernel
theorem dX12_isFamilyText_41 : decode cX12_isFamilyText 41 = .ok (.getfield 169, 3) := by decide +kernel
theorem dX12_isFamilyText_44 : decode cX12_isFamilyText 44 = .ok (.aload_n 0, 1) := by decide +kernel
theorem dX12_isFamilyText_45 : decode cX12_isFamilyText 45 = .ok (.getfield 128, 3) := by decide +kernel
theorem dX12_isFamilyText_48 : decode cX12_isFamilyText 48 = .ok (.if_icmp .ge 52, 3) := by decide +kernel
theorem dX12_isFamilyText_51 : decode cX12_isFamilyText 51 = .ok (.aload_n 0, 1) := by decide +kernel
theorem dX12_isFamilyText_52 : decode cX12_isFamilyText 52 = .ok (.bipush 32, 2) := by decide +kernel
theorem dX12_isFamilyText_54 : decode cX12_isFamilyText 54 = .ok (.invokevirtual 175, 3) := by decide +kernel
theorem dX12_isFamilyText_57 : decode cX12_isFamilyText 57 = .ok (.ifCond .eq 35, 3) := by decide +kernel
theorem dX12_isFamilyText_60 : decode cX12_isFamilyText 60 = .ok (.aload_n 0, 1) := by decide +kernel
theorem dX12_isFamilyText_61 : decode cX12_isFamilyText 61 = .ok (.iconst 3, 1) := by decide +kernel
theorem dX12_isFamilyText_62 : decode cX12_isFamilyText 62 = .ok (.iload_n 1, 1) := by decide +kernel
theorem dX12_isFamilyText_63 : decode cX12_isFamilyText 63 = .ok (.iadd, 1) := by decide +kernel
theorem dX12_isFamilyText_64 : decode cX12_isFamilyText 64 = .ok (.iconst 1, 1) := by decide +kernel
theorem dX12_isFamilyText_65 : decode cX12_isFamilyText 65 = .ok (.invokevirtual 172, 3) := by decide +kernel
theorem dX12_isFamilyText_68 : decode cX12_isFamilyText 68 = .ok (.ifCond .eq 24, 3) := by decide +kernel
theorem dX12_isFamilyText_71 : decode cX12_isFamilyText 71 = .ok (.aload_n 0, 1) := by decide +kernel
theorem dX12_isFamilyText_72 : decode cX12_isFamilyText 72 = .ok (.bipush 120, 2) := by decide +kernel
theorem dX12_isFamilyText_74 : decode cX12_isFamilyText 74 = .ok (.invokevirtual 175, 3) := by decide +kernel
theorem dX12_isFamilyText_77 : decode cX12_isFamilyText 77 = .ok (.ifCond .eq 15, 3) := by decide +kernel
theorem dX12_isFamilyText_80 : decode cX12_isFamilyText 80 = .ok (.aload_n 0, 1) := by decide +kernel
theorem dX12_isFamilyText_81 : decode cX12_isFamilyText 81 = .ok (.bipush 6, 2) := by decide +kernel
theorem dX12_isFamilyText_83 : decode cX12_isFamilyText 83 = .ok (.iload_n 1, 1) := by decide +kernel
theorem dX12_isFamilyText_84 : decode cX12_isFamilyText 84 = .ok (.iadd, 1) := by decide +kernel
theorem dX12_isFamilyText_85 : decode cX12_isFamilyText 85 = .ok (.iconst 1, 1) := by decide +kernel
theorem dX12_isFamilyText_86 : decode cX12_isFamilyText 86 = .ok (.invokevirtual 172, 3) := by decide +kernel
theorem dX12_isFamilyText_89 : decode cX12_isFamilyText 89 = .ok (.ifCond .ne 5, 3) := by decide +kernel
theorem dX12_isFamilyText_92 : decode cX12_isFamilyText 92 = .ok (.iconst 0, 1) := by decide +kernel
theorem dX12_isFamilyText_93 : decode cX12_isFamilyText 93 = .ok (.ireturn, 1) := by decide +kernel
theorem dX12_isFamilyText_94 : decode cX12_isFamilyText 94 = .ok (.iinc 1 1, 3) := by decide +kernel
theorem dX12_isFamilyText_97 : decode cX12_isFamilyText 97 = .ok (.goto (-66), 3) := by decide +kernel
theorem dX12_isFamilyText_100 : decode cX12_isFamilyText 100 = .ok (.aload_n 0, 1) := by decide +kernel
theorem dX12_isFamilyText_101 : decode cX12_isFamilyText 101 = .ok (.getfield 36, 3) := by decide +kernel
theorem dX12_isFamilyText_104 : decode cX12_isFamilyText 104 = .ok (.iconst 2, 1) := by decide +kernel
theorem dX12_isFamilyText_105 : decode cX12_isFamilyText 105 = .ok (.iload_n 1, 1) := by decide +kernel
theorem dX12_isFamilyText_106 : decode cX12_isFamilyText 106 = .ok (.iastore, 1) := by decide +kernel
theorem dX12_isFamilyText_107 : decode cX12_isFamilyText 107 = .ok (.aload_n 0, 1) := by decide +kernel
theorem dX12_isFamilyText_108 : decode cX12_isFamilyText 108 = .ok (.getfield 169, 3) := by decide +kernel
theorem dX12_isFamilyText_111 : decode cX12_isFamilyText 111 = .ok (.aload_n 0, 1) := by decide +kernel
theorem dX12_isFamilyText_112 : decode cX12_isFamilyText 112 = .ok (.getfield 128, 3) := by decide +kernel
theorem dX12_isFamilyText_115 : decode cX12_isFamilyText 115 = .ok (.if_icmp .ne 7, 3) := by decide +kernel
theorem dX12_isFamilyText_118 : decode cX12_isFamilyText 118 = .ok (.iconst 1, 1) := by decide +kernel
theorem dX12_isFamilyText_119 : decode cX12_isFamilyText 119 = .ok (.goto 4, 3) := by decide +kernel
theorem dX12_isFamilyText_122 : decode cX12_isFamilyText 122 = .ok (.iconst 0, 1) := by decide +kernel
theorem dX12_isFamilyText_123 : decode cX12_isFamilyText 123 = .ok (.ireturn, 1) := by decide +kernel
theorem dX12_isCommand_0 : decode cX12_isCommand 0 = .ok (.aload_n 0, 1) := by decide +kernel
theorem dX12_isCommand_1 : decode cX12_isCommand 1 = .ok (.getfield 169, 3) := by decide +kernel
theorem dX12_isCommand_4 : decode cX12_isCommand 4 = .ok (.aload_n 0, 1) := by decide +kernel
theorem dX12_isCommand_5 : decode cX12_isCommand 5 = .ok (.getfield 128, 3) := by decide +kernel
theorem dX12_isCommand_8 : decode cX12_isCommand 8 = .ok (.if_icmp .ne 5, 3) := by decide +kernel
theorem dX12_isCommand_11 : decode cX12_isCommand 11 = .ok (.iconst 0, 1) := by decide +kernel
theorem dX12_isCommand_12 : decode cX12_isCommand 12 = .ok (.ireturn, 1) := by decide +kernel
theorem dX12_isCommand_13 : decode cX12_isCommand 13 = .ok (.aload_n 0, 1) := by decide +kernel
theorem dX12_isCommand_14 : decode cX12_isCommand 14 = .ok (.getfield 22, 3) := by decide +kernel
theorem dX12_isCommand_17 : decode cX12_isCommand 17 = .ok (.aload_n 0, 1) := by decide +kernel
theorem dX12_isCommand_18 : decode cX12_isCommand 18 = .ok (.getfield 169, 3) := by decide +kernel
theorem dX12_isCommand_21 : decode cX12_isCommand 21 = .ok (.caload, 1) := by decide +kernel
theorem dX12_isCommand_22 : decode cX12_isCommand 22 = .ok (.istore_n 2, 1) := by decide +kernel
theorem dX12_isCommand_23 : decode cX12_isCommand 23 = .ok (.iload_n 2, 1) := by decide +kernel
theorem dX12_isCommand_24 : decode cX12_isCommand 24 = .ok (.bipush 109, 2) := by decide +kernel
theorem dX12_isCommand_26 : decode cX12_isCommand 26 = .ok (.if_icmp .eq 23, 3) := by decide +kernel
theorem dX12_isCommand_29 : decode cX12_isCommand 29 = .ok (.iload_n 2, 1) := by decide +kernel
theorem dX12_isCommand_30 : decode cX12_isCommand 30 = .ok (.bipush 114, 2) := by decide +kernel
theorem dX12_isCommand_32 : decode cX12_isCommand 32 = .ok (.if_icmp .eq 17, 3) := by decide +kernel
theorem dX12_isCommand_35 : decode cX12_isCommand 35 = .ok (.iload_n 2, 1) := by decide +kernel
theorem dX12_isCommand_36 : decode cX12_isCommand 36 = .ok (.bipush 119, 2) := by decide +kernel
theorem dX12_isCommand_38 : decode cX12_isCommand 38 = .ok (.if_icmp .eq 11, 3) := by decide +kernel
theorem dX12_isCommand_41 : decode cX12_isCommand 41 = .ok (.iload_n 2, 1) := by decide +kernel
theorem dX12_isCommand_42 : decode cX12_isCommand 42 = .ok (.bipush 108, 2) := by decide +kernel
theorem dX12_isCommand_44 : decode cX12_isCommand 44 = .ok (.if_icmp .eq 5, 3) := by decide +kernel
theorem dX12_isCommand_47 : decode cX12_isCommand 47 = .ok (.iconst 0, 1) := by decide +kernel
theorem dX12_isCommand_48 : decode cX12_isCommand 48 = .ok (.ireturn, 1) := by decide +kernel
theorem dX12_isCommand_49 : decode cX12_isCommand 49 = .ok (.aload_n 0, 1) := by decide +kernel
theorem dX12_isCommand_50 : decode cX12_isCommand 50 = .ok (.dup, 1) := by decide +kernel
theorem dX12_isCommand_51 : decode cX12_isCommand 51 = .ok (.getfield 169, 3) := by decide +kernel
theorem dX12_isCommand_54 : decode cX12_isCommand 54 = .ok (.iconst 1, 1) := by decide +kernel
theorem dX12_isCommand_55 : decode cX12_isCommand 55 = .ok (.iadd, 1) := by decide +kernel
theorem dX12_isCommand_56 : decode cX12_isCommand 56 = .ok (.putfield 169, 3) := by decide +kernel
theorem dX12_isCommand_59 : decode cX12_isCommand 59 = .ok (.aload_n 0, 1) := by decide +kernel
theorem dX12_isCommand_60 : decode cX12_isCommand 60 = .ok (.getfield 36, 3) := by decide +kernel
theorem dX12_isCommand_63 : decode cX12_isCommand 63 = .ok (.iload_n 1, 1) := by decide +kernel
theorem dX12_isCommand_64 : decode cX12_isCommand 64 = .ok (.iload_n 2, 1) := by decide +kernel
theorem dX12_isCommand_65 : decode cX12_isCommand 65 = .ok (.iastore, 1) := by decide +kernel
theorem dX12_isCommand_66 : decode cX12_isCommand 66 = .ok (.iload_n 2, 1) := by decide +kernel
theorem dX12_isCommand_67 : decode cX12_isCommand 67 = .ok (.lookupswitch 88 #[(109, 33), (114, 42), (119, 79)], 33) := by decide +kernel
theorem dX12_isCommand_100 : decode cX12_isCommand 100 = .ok (.aload_n 0, 1) := by decide +kernel
theorem dX12_isCommand_101 : decode cX12_isCommand 101 = .ok (.iload_n 1, 1) := by decide +kernel
theorem dX12_isCommand_102 : decode cX12_isCommand 102 = .ok (.iconst 1, 1) := by decide +kernel
theorem dX12_isCommand_103 : decode cX12_isCommand 103 = .ok (.iadd, 1) := by decide +kernel
theorem dX12_isCommand_104 : decode cX12_isCommand 104 = .ok (.iconst 1, 1) := by decide +kernel
theorem dX12_isCommand_105 : decode cX12_isCommand 105 = .ok (.invokevirtual 172, 3) := by decide +kernel
theorem dX12_isCommand_108 : decode cX12_isCommand 108 = .ok (.ireturn, 1) := by decide +kernel
theorem dX12_isCommand_109 : decode cX12_isCommand 109 = .ok (.aload_n 0, 1) := by decide +kernel
theorem dX12_isCommand_110 : decode cX12_isCommand 110 = .ok (.iload_n 1, 1) := by decide +kernel
theorem dX12_isCommand_111 : decode cX12_isCommand 111 = .ok (.iconst 1, 1) := by decide +kernel
theorem dX12_isCommand_112 : decode cX12_isCommand 112 = .ok (.iadd, 1) := by decide +kernel
theorem dX12_isCommand_113 : decode cX12_isCommand 113 = .ok (.iconst 1, 1) := by decide +kernel
theorem dX12_isCommand_114 : decode cX12_isCommand 114 = .ok (.invokevirtual 172, 3) := by decide +kernel
theorem dX12_isCommand_117 : decode cX12_isCommand 117 = .ok (.ifCond .eq 27, 3) := by decide +kernel
theorem dX12_isCommand_120 : decode cX12_isCommand 120 = .ok (.aload_n 0, 1) := by decide +kernel
theorem dX12_isCommand_121 : decode cX12_isCommand 121 = .ok (.bipush 120, 2) := by decide +kernel
theorem dX12_isCommand_123 : decode cX12_isCommand 123 = .ok (.invokevirtual 175, 3) := by decide +kernel
theorem dX12_isCommand_126 : decode cX12_isCommand 126 = .ok (.ifCond .eq 18, 3) := by decide +kernel
theorem dX12_isCommand_129 : decode cX12_isCommand 129 = .ok (.aload_n 0, 1) := by decide +kernel
theorem dX12_isCommand_130 : decode cX12_isCommand 130 = .ok (.iload_n 1, 1) := by decide +kernel
theorem dX12_isCommand_131 : decode cX12_isCommand 131 = .ok (.iconst 2, 1) := by decide +kernel
theorem dX12_isCommand_132 : decode cX12_isCommand 132 = .ok (.iadd, 1) := by decide +kernel
theorem dX12_isCommand_133 : decode cX12_isCommand 133 = .ok (.iconst 3, 1) := by decide +kernel
theorem dX12_isCommand_134 : decode cX12_isCommand 134 = .ok (.invokevirtual 172, 3) := by decide +kernel
theorem dX12_isCommand_137 : decode cX12_isCommand 137 = .ok (.ifCond .eq 7, 3) := by decide +kernel
theorem dX12_isCommand_140 : decode cX12_isCommand 140 = .ok (.iconst 1, 1) := by decide +kernel
theorem dX12_isCommand_141 : decode cX12_isCommand 141 = .ok (.goto 4, 3) := by decide +kernel
theorem dX12_isCommand_144 : decode cX12_isCommand 144 = .ok (.iconst 0, 1) := by decide +kernel
theorem dX12_isCommand_145 : decode cX12_isCommand 145 = .ok (.ireturn, 1) := by decide +kernel
theorem dX12_isCommand_146 : decode cX12_isCommand 146 = .ok (.aload_n 0, 1) := by decide +kernel
theorem dX12_isCommand_147 : decode cX12_isCommand 147 = .ok (.iload_n 1, 1) := by decide +kernel
theorem dX12_isCommand_148 : decode cX12_isCommand 148 = .ok (.iconst 1, 1) := by decide +kernel
theorem dX12_isCommand_149 : decode cX12_isCommand 149 = .ok (.iadd, 1) := by decide +kernel
theorem dX12_isCommand_150 : decode cX12_isCommand 150 = .ok (.iconst 3, 1) := by decide +kernel
theorem dX12_isCommand_151 : decode cX12_isCommand 151 = .ok (.invokevirtual 172, 3) := by decide +kernel
theorem dX12_isCommand_154 : decode cX12_isCommand 154 = .ok (.ireturn, 1) := by decide +kernel
theorem dX12_isCommand_155 : decode cX12_isCommand 155 = .ok (.aload_n 0, 1) := by decide +kernel
theorem dX12_isCommand_156 : decode cX12_isCommand 156 = .ok (.iload_n 1, 1) := by decide +kernel
theorem dX12_isCommand_157 : decode cX12_isCommand 157 = .ok (.iconst 1, 1) := by decide +kernel
theorem dX12_isCommand_158 : decode cX12_isCommand 158 = .ok (.iadd, 1) := by decide +kernel
theorem dX12_isCommand_159 : decode cX12_isCommand 159 = .ok (.iconst 1, 1) := by decide +kernel
theorem dX12_isCommand_160 : decode cX12_isCommand 160 = .ok (.invokevirtual 172, 3) := by decide +kernel
theorem dX12_isCommand_163 : decode cX12_isCommand 163 = .ok (.ifCond .eq 38, 3) := by decide +kernel
theorem dX12_isCommand_166 : decode cX12_isCommand 166 = .ok (.aload_n 0, 1) := by decide +kernel
theorem dX12_isCommand_167 : decode cX12_isCommand 167 = .ok (.iload_n 1, 1) := by decide +kernel
theorem dX12_isCommand_168 : decode cX12_isCommand 168 = .ok (.iconst 2, 1) := by decide +kernel
theorem dX12_isCommand_169 : decode cX12_isCommand 169 = .ok (.iadd, 1) := by decide +kernel
theorem dX12_isCommand_170 : decode cX12_isCommand 170 = .ok (.iconst 1, 1) := by decide +kernel
theorem dX12_isCommand_171 : decode cX12_isCommand 171 = .ok (.invokevirtual 172, 3) := by decide +kernel
theorem dX12_isCommand_174 : decode cX12_isCommand 174 = .ok (.ifCond .eq 27, 3) := by decide +kernel
theorem dX12_isCommand_177 : decode cX12_isCommand 177 = .ok (.aload_n 0, 1) := by decide +kernel
theorem dX12_isCommand_178 : decode cX12_isCommand 178 = .ok (.bipush 103, 2) := by decide +kernel
theorem dX12_isCommand_180 : decode cX12_isCommand 180 = .ok (.invokevirtual 175, 3) := by decide +kernel
theorem dX12_isCommand_183 : decode cX12_isCommand 183 = .ok (.ifCond .eq 18, 3) := by decide +kernel
theorem dX12_isCommand_186 : decode cX12_isCommand 186 = .ok (.aload_n 0, 1) := by decide +kernel
theorem dX12_isCommand_187 : decode cX12_isCommand 187 = .ok (.iload_n 1, 1) := by decide +kernel
theorem dX12_isCommand_188 : decode cX12_isCommand 188 = .ok (.iconst 3, 1) := by decide +kernel
theorem dX12_isCommand_189 : decode cX12_isCommand 189 = .ok (.iadd, 1) := by decide +kernel
theorem dX12_isCommand_190 : decode cX12_isCommand 190 = .ok (.iconst 5, 1) := by decide +kernel
theorem dX12_isCommand_191 : decode cX12_isCommand 191 = .ok (.invokevirtual 172, 3) := by decide +kernel
theorem dX12_isCommand_194 : decode cX12_isCommand 194 = .ok (.ifCond .eq 7, 3) := by decide +kernel
theorem dX12_isCommand_197 : decode cX12_isCommand 197 = .ok (.iconst 1, 1) := by decide +kernel
theorem dX12_isCommand_198 : decode cX12_isCommand 198 = .ok (.goto 4, 3) := by decide +kernel
theorem dX12_isCommand_201 : decode cX12_isCommand 201 = .ok (.iconst 0, 1) := by decide +kernel
theorem dX12_isCommand_202 : decode cX12_isCommand 202 = .ok (.ireturn, 1) := by decide +kernel
theorem dX12_does_0 : decode cX12_does 0 = .ok (.aload_n 0, 1) := by decide +kernel
theorem dX12_does_1 : decode cX12_does 1 = .ok (.getfield 36, 3) := by decide +kernel
theorem dX12_does_4 : decode cX12_does 4 = .ok (.iload_n 1, 1) := by decide +kernel
theorem dX12_does_5 : decode cX12_does 5 = .ok (.iaload, 1) := by decide +kernel
theorem dX12_does_6 : decode cX12_does 6 = .ok (.lookupswitch 81 #[(109, 34), (114, 47), (119, 68)], 34) := by decide +kernel
theorem dX12_does_40 : decode cX12_does 40 = .ok (.aload_n 0, 1) := by decide +kernel
theorem dX12_does_41 : decode cX12_does 41 = .ok (.aload_n 0, 1) := by decide +kernel
theorem dX12_does_42 : decode cX12_does 42 = .ok (.getfield 36, 3) := by decide +kernel
theorem dX12_does_45 : decode cX12_does 45 = .ok (.iload_n 1, 1) := by decide +kernel
theorem dX12_does_46 : decode cX12_does 46 = .ok (.iconst 1, 1) := by decide +kernel
theorem dX12_does_47 : decode cX12_does 47 = .ok (.iadd, 1) := by decide +kernel
theorem dX12_does_48 : decode cX12_does 48 = .ok (.iaload, 1) := by decide +kernel
theorem dX12_does_49 : decode cX12_does 49 = .ok (.invokevirtual 144, 3) := by decide +kernel
theorem dX12_does_52 : decode cX12_does 52 = .ok (.ireturn, 1) := by decide +kernel
theorem dX12_does_53 : decode cX12_does 53 = .ok (.aload_n 0, 1) := by decide +kernel
theorem dX12_does_54 : decode cX12_does 54 = .ok (.aload_n 0, 1) := by decide +kernel
theorem dX12_does_55 : decode cX12_does 55 = .ok (.getfield 36, 3) := by decide +kernel
theorem dX12_does_58 : decode cX12_does 58 = .ok (.iload_n 1, 1) := by decide +kernel
theorem dX12_does_59 : decode cX12_does 59 = .ok (.iconst 1, 1) := by decide +kernel
theorem dX12_does_60 : decode cX12_does 60 = .ok (.iadd, 1) := by decide +kernel
theorem dX12_does_61 : decode cX12_does 61 = .ok (.iaload, 1) := by decide +kernel
theorem dX12_does_62 : decode cX12_does 62 = .ok (.aload_n 0, 1) := by decide +kernel
theorem dX12_does_63 : decode cX12_does 63 = .ok (.getfield 36, 3) := by decide +kernel
theorem dX12_does_66 : decode cX12_does 66 = .ok (.iload_n 1, 1) := by decide +kernel
theorem dX12_does_67 : decode cX12_does 67 = .ok (.iconst 2, 1) := by decide +kernel
theorem dX12_does_68 : decode cX12_does 68 = .ok (.iadd, 1) := by decide +kernel
theorem dX12_does_69 : decode cX12_does 69 = .ok (.iaload, 1) := by decide +kernel
theorem dX12_does_70 : decode cX12_does 70 = .ok (.invokevirtual 156, 3) := by decide +kernel
theorem dX12_does_73 : decode cX12_does 73 = .ok (.ireturn, 1) := by decide +kernel
theorem dX12_does_74 : decode cX12_does 74 = .ok (.aload_n 0, 1) := by decide +kernel
theorem dX12_does_75 : decode cX12_does 75 = .ok (.aload_n 0, 1) := by decide +kernel
theorem dX12_does_76 : decode cX12_does 76 = .ok (.getfield 36, 3) := by decide +kernel
theorem dX12_does_79 : decode cX12_does 79 = .ok (.iload_n 1, 1) := by decide +kernel
theorem dX12_does_80 : decode cX12_does 80 = .ok (.iconst 1, 1) := by decide +kernel
theorem dX12_does_81 : decode cX12_does 81 = .ok (.iadd, 1) := by decide +kernel
theorem dX12_does_82 : decode cX12_does 82 = .ok (.iaload, 1) := by decide +kernel
theorem dX12_does_83 : decode cX12_does 83 = .ok (.invokevirtual 153, 3) := by decide +kernel
theorem dX12_does_86 : decode cX12_does 86 = .ok (.ireturn, 1) := by decide +kernel
theorem dX12_does_87 : decode cX12_does 87 = .ok (.aload_n 0, 1) := by decide +kernel
theorem dX12_does_88 : decode cX12_does 88 = .ok (.aload_n 0, 1) := by decide +kernel
theorem dX12_does_89 : decode cX12_does 89 = .ok (.getfield 36, 3) := by decide +kernel
theorem dX12_does_92 : decode cX12_does 92 = .ok (.iload_n 1, 1) := by decide +kernel
theorem dX12_does_93 : decode cX12_does 93 = .ok (.iconst 1, 1) := by decide +kernel
theorem dX12_does_94 : decode cX12_does 94 = .ok (.iadd, 1) := by decide +kernel
theorem dX12_does_95 : decode cX12_does 95 = .ok (.iaload, 1) := by decide +kernel
theorem dX12_does_96 : decode cX12_does 96 = .ok (.aload_n 0, 1) := by decide +kernel
theorem dX12_does_97 : decode cX12_does 97 = .ok (.getfield 36, 3) := by decide +kernel
theorem dX12_does_100 : decode cX12_does 100 = .ok (.iload_n 1, 1) := by decide +kernel
theorem dX12_does_101 : decode cX12_does 101 = .ok (.iconst 2, 1) := by decide +kernel
theorem dX12_does_102 : decode cX12_does 102 = .ok (.iadd, 1) := by decide +kernel
theorem dX12_does_103 : decode cX12_does 103 = .ok (.iaload, 1) := by decide +kernel
theorem dX12_does_104 : decode cX12_does 104 = .ok (.aload_n 0, 1) := by decide +kernel
theorem dX12_does_105 : decode cX12_does 105 = .ok (.getfield 36, 3) := by decide +kernel
theorem dX12_does_108 : decode cX12_does 108 = .ok (.iload_n 1, 1) := by decide +kernel
theorem dX12_does_109 : decode cX12_does 109 = .ok (.iconst 3, 1) := by decide +kernel
theorem dX12_does_110 : decode cX12_does 110 = .ok (.iadd, 1) := by decide +kernel
theorem dX12_does_111 : decode cX12_does 111 = .ok (.iaload, 1) := by decide +kernel
theorem dX12_does_112 : decode cX12_does 112 = .ok (.invokevirtual 147, 3) := by decide +kernel
theorem dX12_does_115 : decode cX12_does 115 = .ok (.ireturn, 1) := by decide +kernel
theorem dX12_family_0 : decode cX12_family 0 = .ok (.aload_n 0, 1) := by decide +kernel
theorem dX12_family_1 : decode cX12_family 1 = .ok (.invokevirtual 131, 3) := by decide +kernel
theorem dX12_family_4 : decode cX12_family 4 = .ok (.aload_n 0, 1) := by decide +kernel
theorem dX12_family_5 : decode cX12_family 5 = .ok (.iconst 0, 1) := by decide +kernel
theorem dX12_family_6 : decode cX12_family 6 = .ok (.putfield 169, 3) := by decide +kernel
theorem dX12_family_9 : decode cX12_family 9 = .ok (.iconst 0, 1) := by decide +kernel
theorem dX12_family_10 : decode cX12_family 10 = .ok (.istore_n 1, 1) := by decide +kernel
theorem dX12_family_11 : decode cX12_family 11 = .ok (.iload_n 1, 1) := by decide +kernel
theorem dX12_family_12 : decode cX12_family 12 = .ok (.bipush 9, 2) := by decide +kernel
theorem dX12_family_14 : decode cX12_family 14 = .ok (.if_icmp .ge 16, 3) := by decide +kernel
theorem dX12_family_17 : decode cX12_family 17 = .ok (.aload_n 0, 1) := by decide +kernel
theorem dX12_family_18 : decode cX12_family 18 = .ok (.getfield 36, 3) := by decide +kernel
theorem dX12_family_21 : decode cX12_family 21 = .ok (.iload_n 1, 1) := by decide +kernel
theorem dX12_family_22 : decode cX12_family 22 = .ok (.iconst 0, 1) := by decide +kernel
theorem dX12_family_23 : decode cX12_family 23 = .ok (.iastore, 1) := by decide +kernel
theorem dX12_family_24 : decode cX12_family 24 = .ok (.iinc 1 1, 3) := by decide +kernel
theorem dX12_family_27 : decode cX12_family 27 = .ok (.goto (-16), 3) := by decide +kernel
theorem dX12_family_30 : decode cX12_family 30 = .ok (.aload_n 0, 1) := by decide +kernel
theorem dX12_family_31 : decode cX12_family 31 = .ok (.invokevirtual 179, 3) := by decide +kernel
theorem dX12_family_34 : decode cX12_family 34 = .ok (.istore_n 1, 1) := by decide +kernel
theorem dX12_family_35 : decode cX12_family 35 = .ok (.aload_n 0, 1) := by decide +kernel
theorem dX12_family_36 : decode cX12_family 36 = .ok (.iconst 0, 1) := by decide +kernel
theorem dX12_family_37 : decode cX12_family 37 = .ok (.putfield 128, 3) := by decide +kernel
theorem dX12_family_40 : decode cX12_family 40 = .ok (.aload_n 0, 1) := by decide +kernel
theorem dX12_family_41 : decode cX12_family 41 = .ok (.iload_n 1, 1) := by decide +kernel
theorem dX12_family_42 : decode cX12_family 42 = .ok (.ifCond .eq 7, 3) := by decide +kernel
theorem dX12_family_45 : decode cX12_family 45 = .ok (.iconst (-1), 1) := by decide +kernel
theorem dX12_family_46 : decode cX12_family 46 = .ok (.goto 7, 3) := by decide +kernel
theorem dX12_family_49 : decode cX12_family 49 = .ok (.aload_n 0, 1) := by decide +kernel
theorem dX12_family_50 : decode cX12_family 50 = .ok (.getfield 169, 3) := by decide +kernel
theorem dX12_family_53 : decode cX12_family 53 = .ok (.putfield 26, 3) := by decide +kernel
theorem dX12_family_56 : decode cX12_family 56 = .ok (.iload_n 1, 1) := by decide +kernel
theorem dX12_family_57 : decode cX12_family 57 = .ok (.ifCond .ne 9, 3) := by decide +kernel
theorem dX12_family_60 : decode cX12_family 60 = .ok (.aload_n 0, 1) := by decide +kernel
theorem dX12_family_61 : decode cX12_family 61 = .ok (.iconst 1, 1) := by decide +kernel
theorem dX12_family_62 : decode cX12_family 62 = .ok (.invokevirtual 54, 3) := by decide +kernel
theorem dX12_family_65 : decode cX12_family 65 = .ok (.ireturn, 1) := by decide +kernel
theorem dX12_family_66 : decode cX12_family 66 = .ok (.aload_n 0, 1) := by decide +kernel
theorem dX12_family_67 : decode cX12_family 67 = .ok (.invokevirtual 183, 3) := by decide +kernel
theorem dX12_family_70 : decode cX12_family 70 = .ok (.ifCond .ne 9, 3) := by decide +kernel
theorem dX12_family_73 : decode cX12_family 73 = .ok (.aload_n 0, 1) := by decide +kernel
theorem dX12_family_74 : decode cX12_family 74 = .ok (.iconst 2, 1) := by decide +kernel
theorem dX12_family_75 : decode cX12_family 75 = .ok (.invokevirtual 54, 3) := by decide +kernel
theorem dX12_family_78 : decode cX12_family 78 = .ok (.ireturn, 1) := by decide +kernel
theorem dX12_family_79 : decode cX12_family 79 = .ok (.aload_n 0, 1) := by decide +kernel
theorem dX12_family_80 : decode cX12_family 80 = .ok (.invokevirtual 58, 3) := by decide +kernel
theorem dX12_family_83 : decode cX12_family 83 = .ok (.aload_n 0, 1) := by decide +kernel
theorem dX12_family_84 : decode cX12_family 84 = .ok (.getfield 61, 3) := by decide +kernel
theorem dX12_family_87 : decode cX12_family 87 = .ok (.ireturn, 1) := by decide +kernel
theorem dX12_program_0 : decode cX12_program 0 = .ok (.aload_n 0, 1) := by decide +kernel
theorem dX12_program_1 : decode cX12_program 1 = .ok (.invokevirtual 131, 3) := by decide +kernel
theorem dX12_program_4 : decode cX12_program 4 = .ok (.aload_n 0, 1) := by decide +kernel
theorem dX12_program_5 : decode cX12_program 5 = .ok (.iconst 0, 1) := by decide +kernel
theorem dX12_program_6 : decode cX12_program 6 = .ok (.putfield 169, 3) := by decide +kernel
theorem dX12_program_9 : decode cX12_program 9 = .ok (.iconst 0, 1) := by decide +kernel
theorem dX12_program_10 : decode cX12_program 10 = .ok (.istore_n 1, 1) := by decide +kernel
theorem dX12_program_11 : decode cX12_program 11 = .ok (.aload_n 0, 1) := by decide +kernel
theorem dX12_program_12 : decode cX12_program 12 = .ok (.iconst 0, 1) := by decide +kernel
theorem dX12_program_13 : decode cX12_program 13 = .ok (.invokevirtual 186, 3) := by decide +kernel
theorem dX12_program_16 : decode cX12_program 16 = .ok (.istore_n 2, 1) := by decide +kernel
theorem dX12_program_17 : decode cX12_program 17 = .ok (.iload_n 2, 1) := by decide +kernel
theorem dX12_program_18 : decode cX12_program 18 = .ok (.ifCond .eq 45, 3) := by decide +kernel
theorem dX12_program_21 : decode cX12_program 21 = .ok (.aload_n 0, 1) := by decide +kernel
theorem dX12_program_22 : decode cX12_program 22 = .ok (.getfield 169, 3) := by decide +kernel
theorem dX12_program_25 : decode cX12_program 25 = .ok (.aload_n 0, 1) := by decide +kernel
theorem dX12_program_26 : decode cX12_program 26 = .ok (.getfield 128, 3) := by decide +kernel
theorem dX12_program_29 : decode cX12_program 29 = .ok (.if_icmp .ge 34, 3) := by decide +kernel
theorem dX12_program_32 : decode cX12_program 32 = .ok (.iinc 1 1, 3) := by decide +kernel
theorem dX12_program_35 : decode cX12_program 35 = .ok (.aload_n 0, 1) := by decide +kernel
theorem dX12_program_36 : decode cX12_program 36 = .ok (.bipush 59, 2) := by decide +kernel
theorem dX12_program_38 : decode cX12_program 38 = .ok (.invokevirtual 175, 3) := by decide +kernel
theorem dX12_program_41 : decode cX12_program 41 = .ok (.ifCond .eq 17, 3) := by decide +kernel
theorem dX12_program_44 : decode cX12_program 44 = .ok (.aload_n 0, 1) := by decide +kernel
theorem dX12_program_45 : decode cX12_program 45 = .ok (.iconst 4, 1) := by decide +kernel
theorem dX12_program_46 : decode cX12_program 46 = .ok (.iload_n 1, 1) := by decide +kernel
theorem dX12_program_47 : decode cX12_program 47 = .ok (.imul, 1) := by decide +kernel
theorem dX12_program_48 : decode cX12_program 48 = .ok (.invokevirtual 186, 3) := by decide +kernel
theorem dX12_program_51 : decode cX12_program 51 = .ok (.ifCond .eq 7, 3) := by decide +kernel
theorem dX12_program_54 : decode cX12_program 54 = .ok (.iconst 1, 1) := by decide +kernel
theorem dX12_program_55 : decode cX12_program 55 = .ok (.goto 4, 3) := by decide +kernel
theorem dX12_program_58 : decode cX12_program 58 = .ok (.iconst 0, 1) := by decide +kernel
theorem dX12_program_59 : decode cX12_program 59 = .ok (.istore_n 2, 1) := by decide +kernel
theorem dX12_program_60 : decode cX12_program 60 = .ok (.goto (-43), 3) := by decide +kernel
theorem dX12_program_63 : decode cX12_program 63 = .ok (.iinc 1 1, 3) := by decide +kernel
theorem dX12_program_66 : decode cX12_program 66 = .ok (.aload_n 0, 1) := by decide +kernel
theorem dX12_program_67 : decode cX12_program 67 = .ok (.iconst 0, 1) := by decide +kernel
theorem dX12_program_68 : decode cX12_program 68 = .ok (.putfield 128, 3) := by decide +kernel
theorem dX12_program_71 : decode cX12_program 71 = .ok (.aload_n 0, 1) := by decide +kernel
theorem dX12_program_72 : decode cX12_program 72 = .ok (.iload_n 2, 1) := by decide +kernel
theorem dX12_program_73 : decode cX12_program 73 = .ok (.ifCond .eq 7, 3) := by decide +kernel
theorem dX12_program_76 : decode cX12_program 76 = .ok (.iconst (-1), 1) := by decide +kernel
theorem dX12_program_77 : decode cX12_program 77 = .ok (.goto 7, 3) := by decide +kernel
theorem dX12_program_80 : decode cX12_program 80 = .ok (.aload_n 0, 1) := by decide +kernel
theorem dX12_program_81 : decode cX12_program 81 = .ok (.getfield 169, 3) := by decide +kernel
theorem dX12_program_84 : decode cX12_program 84 = .ok (.putfield 26, 3) := by decide +kernel
theorem dX12_program_87 : decode cX12_program 87 = .ok (.iload_n 2, 1) := by decide +kernel
theorem dX12_program_88 : decode cX12_program 88 = .ok (.ifCond .ne 9, 3) := by decide +kernel
theorem dX12_program_91 : decode cX12_program 91 = .ok (.aload_n 0, 1) := by decide +kernel
theorem dX12_program_92 : decode cX12_program 92 = .ok (.iconst 1, 1) := by decide +kernel
theorem dX12_program_93 : decode cX12_program 93 = .ok (.invokevirtual 54, 3) := by decide +kernel
theorem dX12_program_96 : decode cX12_program 96 = .ok (.ireturn, 1) := by decide +kernel
theorem dX12_program_97 : decode cX12_program 97 = .ok (.iconst 0, 1) := by decide +kernel
theorem dX12_program_98 : decode cX12_program 98 = .ok (.istore_n 3, 1) := by decide +kernel
theorem dX12_program_99 : decode cX12_program 99 = .ok (.iload_n 3, 1) := by decide +kernel
theorem dX12_program_100 : decode cX12_program 100 = .ok (.iload_n 1, 1) := by decide +kernel
theorem dX12_program_101 : decode cX12_program 101 = .ok (.if_icmp .ge 106, 3) := by decide +kernel
theorem dX12_program_104 : decode cX12_program 104 = .ok (.aload_n 0, 1) := by decide +kernel
theorem dX12_program_105 : decode cX12_program 105 = .ok (.iconst 4, 1) := by decide +kernel
theorem dX12_program_106 : decode cX12_program 106 = .ok (.iload_n 3, 1) := by decide +kernel
theorem dX12_program_107 : decode cX12_program 107 = .ok (.imul, 1) := by decide +kernel
theorem dX12_program_108 : decode cX12_program 108 = .ok (.invokevirtual 189, 3) := by decide +kernel
theorem dX12_program_111 : decode cX12_program 111 = .ok (.ifCond .eq 6, 3) := by decide +kernel
theorem dX12_program_114 : decode cX12_program 114 = .ok (.goto 87, 3) := by decide +kernel
theorem dX12_program_117 : decode cX12_program 117 = .ok (.aload_n 0, 1) := by decide +kernel
theorem dX12_program_118 : decode cX12_program 118 = .ok (.invokevirtual 192, 3) := by decide +kernel
theorem dX12_program_121 : decode cX12_program 121 = .ok (.aload_n 0, 1) := by decide +kernel
theorem dX12_program_122 : decode cX12_program 122 = .ok (.getfield 51, 3) := by decide +kernel
theorem dX12_program_125 : decode cX12_program 125 = .ok (.istore 4, 2) := by decide +kernel
theorem dX12_program_127 : decode cX12_program 127 = .ok (.iload 4, 2) := by decide +kernel
theorem dX12_program_129 : decode cX12_program 129 = .ok (.ifCond .le 41, 3) := by decide +kernel
theorem dX12_program_132 : decode cX12_program 132 = .ok (.aload_n 0, 1) := by decide +kernel
theorem dX12_program_133 : decode cX12_program 133 = .ok (.getfield 30, 3) := by decide +kernel
theorem dX12_program_136 : decode cX12_program 136 = .ok (.iload 4, 2) := by decide +kernel
theorem dX12_program_138 : decode cX12_program 138 = .ok (.aload_n 0, 1) := by decide +kernel
theorem dX12_program_139 : decode cX12_program 139 = .ok (.getfield 30, 3) := by decide +kernel
theorem dX12_program_142 : decode cX12_program 142 = .ok (.iload 4, 2) := by decide +kernel
theorem dX12_program_144 : decode cX12_program 144 = .ok (.iconst 1, 1) := by decide +kernel
theorem dX12_program_145 : decode cX12_program 145 = .ok (.isub, 1) := by decide +kernel
theorem dX12_program_146 : decode cX12_program 146 = .ok (.iaload, 1) := by decide +kernel
theorem dX12_program_147 : decode cX12_program 147 = .ok (.iastore, 1) := by decide +kernel
theorem dX12_program_148 : decode cX12_program 148 = .ok (.aload_n 0, 1) := by decide +kernel
theorem dX12_program_149 : decode cX12_program 149 = .ok (.getfield 33, 3) := by decide +kernel
theorem dX12_program_152 : decode cX12_program 152 = .ok (.iload 4, 2) := by decide +kernel
theorem dX12_program_154 : decode cX12_program 154 = .ok (.aload_n 0, 1) := by decide +kernel
theorem dX12_program_155 : decode cX12_program 155 = .ok (.getfield 33, 3) := by decide +kernel
theorem dX12_program_158 : decode cX12_program 158 = .ok (.iload 4, 2) := by decide +kernel
theorem dX12_program_160 : decode cX12_program 160 = .ok (.iconst 1, 1) := by decide +kernel
theorem dX12_program_161 : decode cX12_program 161 = .ok (.isub, 1) := by decide +kernel
theorem dX12_program_162 : decode cX12_program 162 = .ok (.iaload, 1) := by decide +kernel
theorem dX12_program_163 : decode cX12_program 163 = .ok (.iastore, 1) := by decide +kernel
theorem dX12_program_164 : decode cX12_program 164 = .ok (.iinc 4 (-1), 3) := by decide +kernel
theorem dX12_program_167 : decode cX12_program 167 = .ok (.goto (-40), 3) := by decide +kernel
theorem dX12_program_170 : decode cX12_program 170 = .ok (.aload_n 0, 1) := by decide +kernel
theorem dX12_program_171 : decode cX12_program 171 = .ok (.dup, 1) := by decide +kernel
theorem dX12_program_172 : decode cX12_program 172 = .ok (.getfield 51, 3) := by decide +kernel
theorem dX12_program_175 : decode cX12_program 175 = .ok (.iconst 1, 1) := by decide +kernel
theorem dX12_program_176 : decode cX12_program 176 = .ok (.iadd, 1) := by decide +kernel
theorem dX12_program_177 : decode cX12_program 177 = .ok (.putfield 51, 3) := by decide +kernel
theorem dX12_program_180 : decode cX12_program 180 = .ok (.aload_n 0, 1) := by decide +kernel
theorem dX12_program_181 : decode cX12_program 181 = .ok (.getfield 30, 3) := by decide +kernel
theorem dX12_program_184 : decode cX12_program 184 = .ok (.iconst 0, 1) := by decide +kernel
theorem dX12_program_185 : decode cX12_program 185 = .ok (.bipush 13, 2) := by decide +kernel
theorem dX12_program_187 : decode cX12_program 187 = .ok (.iastore, 1) := by decide +kernel
theorem dX12_program_188 : decode cX12_program 188 = .ok (.aload_n 0, 1) := by decide +kernel
theorem dX12_program_189 : decode cX12_program 189 = .ok (.getfield 33, 3) := by decide +kernel
theorem dX12_program_192 : decode cX12_program 192 = .ok (.iconst 0, 1) := by decide +kernel
theorem dX12_program_193 : decode cX12_program 193 = .ok (.iload_n 3, 1) := by decide +kernel
theorem dX12_program_194 : decode cX12_program 194 = .ok (.iastore, 1) := by decide +kernel
theorem dX12_program_195 : decode cX12_program 195 = .ok (.aload_n 0, 1) := by decide +kernel
theorem dX12_program_196 : decode cX12_program 196 = .ok (.iconst 2, 1) := by decide +kernel
theorem dX12_program_197 : decode cX12_program 197 = .ok (.invokevirtual 54, 3) := by decide +kernel
theorem dX12_program_200 : decode cX12_program 200 = .ok (.ireturn, 1) := by decide +kernel
theorem dX12_program_201 : decode cX12_program 201 = .ok (.iinc 3 1, 3) := by decide +kernel
theorem dX12_program_204 : decode cX12_program 204 = .ok (.goto (-105), 3) := by decide +kernel
theorem dX12_program_207 : decode cX12_program 207 = .ok (.aload_n 0, 1) := by decide +kernel
theorem dX12_program_208 : decode cX12_program 208 = .ok (.invokevirtual 58, 3) := by decide +kernel
theorem dX12_program_211 : decode cX12_program 211 = .ok (.iload_n 1, 1) := by decide +kernel
theorem dX12_program_212 : decode cX12_program 212 = .ok (.ireturn, 1) := by decide +kernel
theorem dX12_faultPosition_0 : decode cX12_faultPosition 0 = .ok (.aload_n 0, 1) := by decide +kernel
theorem dX12_faultPosition_1 : decode cX12_faultPosition 1 = .ok (.iconst 0, 1) := by decide +kernel
theorem dX12_faultPosition_2 : decode cX12_faultPosition 2 = .ok (.putfield 45, 3) := by decide +kernel
theorem dX12_faultPosition_5 : decode cX12_faultPosition 5 = .ok (.aload_n 0, 1) := by decide +kernel
theorem dX12_faultPosition_6 : decode cX12_faultPosition 6 = .ok (.getfield 26, 3) := by decide +kernel
theorem dX12_faultPosition_9 : decode cX12_faultPosition 9 = .ok (.ireturn, 1) := by decide +kernel
theorem dX12_purge_0 : decode cX12_purge 0 = .ok (.aload_n 0, 1) := by decide +kernel
theorem dX12_purge_1 : decode cX12_purge 1 = .ok (.iconst 0, 1) := by decide +kernel
theorem dX12_purge_2 : decode cX12_purge 2 = .ok (.putfield 45, 3) := by decide +kernel
theorem dX12_purge_5 : decode cX12_purge 5 = .ok (.aload_n 0, 1) := by decide +kernel
theorem dX12_purge_6 : decode cX12_purge 6 = .ok (.iload_n 1, 1) := by decide +kernel
theorem dX12_purge_7 : decode cX12_purge 7 = .ok (.invokevirtual 95, 3) := by decide +kernel
theorem dX12_purge_10 : decode cX12_purge 10 = .ok (.ifCond .eq 20, 3) := by decide +kernel
theorem dX12_purge_13 : decode cX12_purge 13 = .ok (.aload_n 0, 1) := by decide +kernel
theorem dX12_purge_14 : decode cX12_purge 14 = .ok (.iload_n 2, 1) := by decide +kernel
theorem dX12_purge_15 : decode cX12_purge 15 = .ok (.invokevirtual 95, 3) := by decide +kernel
theorem dX12_purge_18 : decode cX12_purge 18 = .ok (.ifCond .eq 12, 3) := by decide +kernel
theorem dX12_purge_21 : decode cX12_purge 21 = .ok (.aload_n 0, 1) := by decide +kernel
theorem dX12_purge_22 : decode cX12_purge 22 = .ok (.iload_n 1, 1) := by decide +kernel
theorem dX12_purge_23 : decode cX12_purge 23 = .ok (.iload_n 2, 1) := by decide +kernel
theorem dX12_purge_24 : decode cX12_purge 24 = .ok (.invokevirtual 108, 3) := by decide +kernel
theorem dX12_purge_27 : decode cX12_purge 27 = .ok (.goto 8, 3) := by decide +kernel
theorem dX12_purge_30 : decode cX12_purge 30 = .ok (.aload_n 0, 1) := by decide +kernel
theorem dX12_purge_31 : decode cX12_purge 31 = .ok (.iconst 1, 1) := by decide +kernel
theorem dX12_purge_32 : decode cX12_purge 32 = .ok (.invokevirtual 54, 3) := by decide +kernel
theorem dX12_purge_35 : decode cX12_purge 35 = .ok (.ireturn, 1) := by decide +kernel
theorem dX12_minutes_0 : decode cX12_minutes 0 = .ok (.aload_n 0, 1) := by decide +kernel
theorem dX12_minutes_1 : decode cX12_minutes 1 = .ok (.iconst 0, 1) := by decide +kernel
theorem dX12_minutes_2 : decode cX12_minutes 2 = .ok (.putfield 45, 3) := by decide +kernel
theorem dX12_minutes_5 : decode cX12_minutes 5 = .ok (.aload_n 0, 1) := by decide +kernel
theorem dX12_minutes_6 : decode cX12_minutes 6 = .ok (.iload_n 1, 1) := by decide +kernel
theorem dX12_minutes_7 : decode cX12_minutes 7 = .ok (.invokevirtual 95, 3) := by decide +kernel
theorem dX12_minutes_10 : decode cX12_minutes 10 = .ok (.ifCond .ne 9, 3) := by decide +kernel
theorem dX12_minutes_13 : decode cX12_minutes 13 = .ok (.aload_n 0, 1) := by decide +kernel
theorem dX12_minutes_14 : decode cX12_minutes 14 = .ok (.iconst 1, 1) := by decide +kernel
theorem dX12_minutes_15 : decode cX12_minutes 15 = .ok (.invokevirtual 54, 3) := by decide +kernel
theorem dX12_minutes_18 : decode cX12_minutes 18 = .ok (.ireturn, 1) := by decide +kernel
theorem dX12_minutes_19 : decode cX12_minutes 19 = .ok (.iload_n 2, 1) := by decide +kernel
theorem dX12_minutes_20 : decode cX12_minutes 20 = .ok (.iconst 1, 1) := by decide +kernel
theorem dX12_minutes_21 : decode cX12_minutes 21 = .ok (.sipush 200, 3) := by decide +kernel
theorem dX12_minutes_24 : decode cX12_minutes 24 = .ok (.invokestatic 64, 3) := by decide +kernel
theorem dX12_minutes_27 : decode cX12_minutes 27 = .ok (.ifCond .ne 9, 3) := by decide +kernel
theorem dX12_minutes_30 : decode cX12_minutes 30 = .ok (.aload_n 0, 1) := by decide +kernel
theorem dX12_minutes_31 : decode cX12_minutes 31 = .ok (.iconst 2, 1) := by decide +kernel
theorem dX12_minutes_32 : decode cX12_minutes 32 = .ok (.invokevirtual 54, 3) := by decide +kernel
theorem dX12_minutes_35 : decode cX12_minutes 35 = .ok (.ireturn, 1) := by decide +kernel
theorem dX12_minutes_36 : decode cX12_minutes 36 = .ok (.aload_n 0, 1) := by decide +kernel
theorem dX12_minutes_37 : decode cX12_minutes 37 = .ok (.getfield 9, 3) := by decide +kernel
theorem dX12_minutes_40 : decode cX12_minutes 40 = .ok (.iconst 4, 1) := by decide +kernel
theorem dX12_minutes_41 : decode cX12_minutes 41 = .ok (.iaload, 1) := by decide +kernel
theorem dX12_minutes_42 : decode cX12_minutes 42 = .ok (.ifCond .ge 9, 3) := by decide +kernel
theorem dX12_minutes_45 : decode cX12_minutes 45 = .ok (.aload_n 0, 1) := by decide +kernel
theorem dX12_minutes_46 : decode cX12_minutes 46 = .ok (.iconst 3, 1) := by decide +kernel
theorem dX12_minutes_47 : decode cX12_minutes 47 = .ok (.invokevirtual 54, 3) := by decide +kernel
theorem dX12_minutes_50 : decode cX12_minutes 50 = .ok (.ireturn, 1) := by decide +kernel
theorem dX12_minutes_51 : decode cX12_minutes 51 = .ok (.aload_n 0, 1) := by decide +kernel
theorem dX12_minutes_52 : decode cX12_minutes 52 = .ok (.aload_n 0, 1) := by decide +kernel
theorem dX12_minutes_53 : decode cX12_minutes 53 = .ok (.getfield 9, 3) := by decide +kernel
theorem dX12_minutes_56 : decode cX12_minutes 56 = .ok (.iconst 4, 1) := by decide +kernel
theorem dX12_minutes_57 : decode cX12_minutes 57 = .ok (.iaload, 1) := by decide +kernel
theorem dX12_minutes_58 : decode cX12_minutes 58 = .ok (.iconst 0, 1) := by decide +kernel
theorem dX12_minutes_59 : decode cX12_minutes 59 = .ok (.invokevirtual 111, 3) := by decide +kernel
theorem dX12_minutes_62 : decode cX12_minutes 62 = .ok (.aload_n 0, 1) := by decide +kernel
theorem dX12_minutes_63 : decode cX12_minutes 63 = .ok (.aload_n 0, 1) := by decide +kernel
theorem dX12_minutes_64 : decode cX12_minutes 64 = .ok (.getfield 9, 3) := by decide +kernel
theorem dX12_minutes_67 : decode cX12_minutes 67 = .ok (.iconst 5, 1) := by decide +kernel
theorem dX12_minutes_68 : decode cX12_minutes 68 = .ok (.iaload, 1) := by decide +kernel
theorem dX12_minutes_69 : decode cX12_minutes 69 = .ok (.iload_n 1, 1) := by decide +kernel
theorem dX12_minutes_70 : decode cX12_minutes 70 = .ok (.invokevirtual 108, 3) := by decide +kernel
theorem dX12_minutes_73 : decode cX12_minutes 73 = .ok (.iload_n 2, 1) := by decide +kernel
theorem dX12_minutes_74 : decode cX12_minutes 74 = .ok (.iadd, 1) := by decide +kernel
theorem dX12_minutes_75 : decode cX12_minutes 75 = .ok (.imul, 1) := by decide +kernel
theorem dX12_minutes_76 : decode cX12_minutes 76 = .ok (.ireturn, 1) := by decide +kernel
theorem dX12_orders_0 : decode cX12_orders 0 = .ok (.iload_n 2, 1) := by decide +kernel
theorem dX12_orders_1 : decode cX12_orders 1 = .ok (.ifCond .ne 54, 3) := by decide +kernel
theorem dX12_orders_4 : decode cX12_orders 4 = .ok (.aload_n 0, 1) := by decide +kernel
theorem dX12_orders_5 : decode cX12_orders 5 = .ok (.getfield 195, 3) := by decide +kernel
theorem dX12_orders_8 : decode cX12_orders 8 = .ok (.ifCond .lt 12, 3) := by decide +kernel
theorem dX12_orders_11 : decode cX12_orders 11 = .ok (.iload_n 3, 1) := by decide +kernel
theorem dX12_orders_12 : decode cX12_orders 12 = .ok (.aload_n 0, 1) := by decide +kernel
theorem dX12_orders_13 : decode cX12_orders 13 = .ok (.getfield 195, 3) := by decide +kernel
theorem dX12_orders_16 : decode cX12_orders 16 = .ok (.if_icmp .lt 4, 3) := by decide +kernel
theorem dX12_orders_19 : decode cX12_orders 19 = .ok (.return_, 1) := by decide +kernel
theorem dX12_orders_20 : decode cX12_orders 20 = .ok (.aload_n 0, 1) := by decide +kernel
theorem dX12_orders_21 : decode cX12_orders 21 = .ok (.iload_n 3, 1) := by decide +kernel
theorem dX12_orders_22 : decode cX12_orders 22 = .ok (.putfield 195, 3) := by decide +kernel
theorem dX12_orders_25 : decode cX12_orders 25 = .ok (.iconst 0, 1) := by decide +kernel
theorem dX12_orders_26 : decode cX12_orders 26 = .ok (.istore 4, 2) := by decide +kernel
theorem dX12_orders_28 : decode cX12_orders 28 = .ok (.iload 4, 2) := by decide +kernel
theorem dX12_orders_30 : decode cX12_orders 30 = .ok (.iload_n 1, 1) := by decide +kernel
theorem dX12_orders_31 : decode cX12_orders 31 = .ok (.if_icmp .ge 23, 3) := by decide +kernel
theorem dX12_orders_34 : decode cX12_orders 34 = .ok (.aload_n 0, 1) := by decide +kernel
theorem dX12_orders_35 : decode cX12_orders 35 = .ok (.getfield 39, 3) := by decide +kernel
theorem dX12_orders_38 : decode cX12_orders 38 = .ok (.iload 4, 2) := by decide +kernel
theorem dX12_orders_40 : decode cX12_orders 40 = .ok (.aload_n 0, 1) := by decide +kernel
theorem dX12_orders_41 : decode cX12_orders 41 = .ok (.getfield 42, 3) := by decide +kernel
theorem dX12_orders_44 : decode cX12_orders 44 = .ok (.iload 4, 2) := by decide +kernel
theorem dX12_orders_46 : decode cX12_orders 46 = .ok (.iaload, 1) := by decide +kernel
theorem dX12_orders_47 : decode cX12_orders 47 = .ok (.iastore, 1) := by decide +kernel
theorem dX12_orders_48 : decode cX12_orders 48 = .ok (.iinc 4 1, 3) := by decide +kernel
theorem dX12_orders_51 : decode cX12_orders 51 = .ok (.goto (-23), 3) := by decide +kernel
theorem dX12_orders_54 : decode cX12_orders 54 = .ok (.return_, 1) := by decide +kernel
theorem dX12_orders_55 : decode cX12_orders 55 = .ok (.iconst 0, 1) := by decide +kernel
theorem dX12_orders_56 : decode cX12_orders 56 = .ok (.istore 4, 2) := by decide +kernel
theorem dX12_orders_58 : decode cX12_orders 58 = .ok (.iload 4, 2) := by decide +kernel
theorem dX12_orders_60 : decode cX12_orders 60 = .ok (.bipush 6, 2) := by decide +kernel
theorem dX12_orders_62 : decode cX12_orders 62 = .ok (.if_icmp .ge 73, 3) := by decide +kernel
theorem dX12_orders_65 : decode cX12_orders 65 = .ok (.iload_n 2, 1) := by decide +kernel
theorem dX12_orders_66 : decode cX12_orders 66 = .ok (.iload 4, 2) := by decide +kernel
theorem dX12_orders_68 : decode cX12_orders 68 = .ok (.ishr, 1) := by decide +kernel
theorem dX12_orders_69 : decode cX12_orders 69 = .ok (.iconst 1, 1) := by decide +kernel
theorem dX12_orders_70 : decode cX12_orders 70 = .ok (.iand, 1) := by decide +kernel
theorem dX12_orders_71 : decode cX12_orders 71 = .ok (.ifCond .ne 6, 3) := by decide +kernel
theorem dX12_orders_74 : decode cX12_orders 74 = .ok (.goto 55, 3) := by decide +kernel
theorem dX12_orders_77 : decode cX12_orders 77 = .ok (.aload_n 0, 1) := by decide +kernel
theorem dX12_orders_78 : decode cX12_orders 78 = .ok (.getfield 42, 3) := by decide +kernel
theorem dX12_orders_81 : decode cX12_orders 81 = .ok (.iload_n 1, 1) := by decide +kernel
theorem dX12_orders_82 : decode cX12_orders 82 = .ok (.iload 4, 2) := by decide +kernel
theorem dX12_orders_84 : decode cX12_orders 84 = .ok (.iastore, 1) := by decide +kernel
theorem dX12_orders_85 : decode cX12_orders 85 = .ok (.aload_n 0, 1) := by decide +kernel
theorem dX12_orders_86 : decode cX12_orders 86 = .ok (.iload_n 1, 1) := by decide +kernel
theorem dX12_orders_87 : decode cX12_orders 87 = .ok (.iconst 1, 1) := by decide +kernel
theorem dX12_orders_88 : decode cX12_orders 88 = .ok (.iadd, 1) := by decide +kernel
theorem dX12_orders_89 : decode cX12_orders 89 = .ok (.iload_n 2, 1) := by decide +kernel
theorem dX12_orders_90 : decode cX12_orders 90 = .ok (.iconst 1, 1) := by decide +kernel
theorem dX12_orders_91 : decode cX12_orders 91 = .ok (.iload 4, 2) := by decide +kernel
theorem dX12_orders_93 : decode cX12_orders 93 = .ok (.ishl, 1) := by decide +kernel
theorem dX12_orders_94 : decode cX12_orders 94 = .ok (.iconst (-1), 1) := by decide +kernel
theorem dX12_orders_95 : decode cX12_orders 95 = .ok (.ixor, 1) := by decide +kernel
theorem dX12_orders_96 : decode cX12_orders 96 = .ok (.iand, 1) := by decide +kernel
theorem dX12_orders_97 : decode cX12_orders 97 = .ok (.iload_n 3, 1) := by decide +kernel
theorem dX12_orders_98 : decode cX12_orders 98 = .ok (.aload_n 0, 1) := by decide +kernel
theorem dX12_orders_99 : decode cX12_orders 99 = .ok (.iload_n 1, 1) := by decide +kernel
theorem dX12_orders_100 : decode cX12_orders 100 = .ok (.ifCond .ne 12, 3) := by decide +kernel
theorem dX12_orders_103 : decode cX12_orders 103 = .ok (.aload_n 0, 1) := by decide +kernel
theorem dX12_orders_104 : decode cX12_orders 104 = .ok (.getfield 9, 3) := by decide +kernel
theorem dX12_orders_107 : decode cX12_orders 107 = .ok (.iconst 5, 1) := by decide +kernel
theorem dX12_orders_108 : decode cX12_orders 108 = .ok (.iaload, 1) := by decide +kernel
theorem dX12_orders_109 : decode cX12_orders 109 = .ok (.goto 11, 3) := by decide +kernel
theorem dX12_orders_112 : decode cX12_orders 112 = .ok (.aload_n 0, 1) := by decide +kernel
theorem dX12_orders_113 : decode cX12_orders 113 = .ok (.getfield 42, 3) := by decide +kernel
theorem dX12_orders_116 : decode cX12_orders 116 = .ok (.iload_n 1, 1) := by decide +kernel
theorem dX12_orders_117 : decode cX12_orders 117 = .ok (.iconst 1, 1) := by decide +kernel
theorem dX12_orders_118 : decode cX12_orders 118 = .ok (.isub, 1) := by decide +kernel
theorem dX12_orders_119 : decode cX12_orders 119 = .ok (.iaload, 1) := by decide +kernel
theorem dX12_orders_120 : decode cX12_orders 120 = .ok (.iload 4, 2) := by decide +kernel
theorem dX12_orders_122 : decode cX12_orders 122 = .ok (.invokevirtual 108, 3) := by decide +kernel
theorem dX12_orders_125 : decode cX12_orders 125 = .ok (.iadd, 1) := by decide +kernel
theorem dX12_orders_126 : decode cX12_orders 126 = .ok (.invokevirtual 198, 3) := by decide +kernel
theorem dX12_orders_129 : decode cX12_orders 129 = .ok (.iinc 4 1, 3) := by decide +kernel
theorem dX12_orders_132 : decode cX12_orders 132 = .ok (.goto (-74), 3) := by decide +kernel
theorem dX12_orders_135 : decode cX12_orders 135 = .ok (.return_, 1) := by decide +kernel
theorem dX12_isSet_0 : decode cX12_isSet 0 = .ok (.aload_n 0, 1) := by decide +kernel
theorem dX12_isSet_1 : decode cX12_isSet 1 = .ok (.iconst 0, 1) := by decide +kernel
theorem dX12_isSet_2 : decode cX12_isSet 2 = .ok (.putfield 45, 3) := by decide +kernel
theorem dX12_isSet_5 : decode cX12_isSet 5 = .ok (.iload_n 1, 1) := by decide +kernel
theorem dX12_isSet_6 : decode cX12_isSet 6 = .ok (.iconst 0, 1) := by decide +kernel
theorem dX12_isSet_7 : decode cX12_isSet 7 = .ok (.iconst 1, 1) := by decide +kernel
theorem dX12_isSet_8 : decode cX12_isSet 8 = .ok (.aload_n 0, 1) := by decide +kernel
theorem dX12_isSet_9 : decode cX12_isSet 9 = .ok (.getfield 9, 3) := by decide +kernel
theorem dX12_isSet_12 : decode cX12_isSet 12 = .ok (.iconst 0, 1) := by decide +kernel
theorem dX12_isSet_13 : decode cX12_isSet 13 = .ok (.iaload, 1) := by decide +kernel
theorem dX12_isSet_14 : decode cX12_isSet 14 = .ok (.ishl, 1) := by decide +kernel
theorem dX12_isSet_15 : decode cX12_isSet 15 = .ok (.iconst 1, 1) := by decide +kernel
theorem dX12_isSet_16 : decode cX12_isSet 16 = .ok (.isub, 1) := by decide +kernel
theorem dX12_isSet_17 : decode cX12_isSet 17 = .ok (.invokestatic 64, 3) := by decide +kernel
theorem dX12_isSet_20 : decode cX12_isSet 20 = .ok (.ifCond .ne 5, 3) := by decide +kernel
theorem dX12_isSet_23 : decode cX12_isSet 23 = .ok (.iconst 0, 1) := by decide +kernel
theorem dX12_isSet_24 : decode cX12_isSet 24 = .ok (.ireturn, 1) := by decide +kernel
theorem dX12_isSet_25 : decode cX12_isSet 25 = .ok (.aload_n 0, 1) := by decide +kernel
theorem dX12_isSet_26 : decode cX12_isSet 26 = .ok (.iconst (-1), 1) := by decide +kernel
theorem dX12_isSet_27 : decode cX12_isSet 27 = .ok (.putfield 195, 3) := by decide +kernel
theorem dX12_isSet_30 : decode cX12_isSet 30 = .ok (.aload_n 0, 1) := by decide +kernel
theorem dX12_isSet_31 : decode cX12_isSet 31 = .ok (.iconst 0, 1) := by decide +kernel
theorem dX12_isSet_32 : decode cX12_isSet 32 = .ok (.iload_n 1, 1) := by decide +kernel
theorem dX12_isSet_33 : decode cX12_isSet 33 = .ok (.iconst 0, 1) := by decide +kernel
theorem dX12_isSet_34 : decode cX12_isSet 34 = .ok (.invokevirtual 198, 3) := by decide +kernel
theorem dX12_isSet_37 : decode cX12_isSet 37 = .ok (.iconst 1, 1) := by decide +kernel
theorem dX12_isSet_38 : decode cX12_isSet 38 = .ok (.ireturn, 1) := by decide +kernel
theorem dX12_best_0 : decode cX12_best 0 = .ok (.aload_n 0, 1) := by decide +kernel
theorem dX12_best_1 : decode cX12_best 1 = .ok (.iload_n 1, 1) := by decide +kernel
theorem dX12_best_2 : decode cX12_best 2 = .ok (.invokevirtual 202, 3) := by decide +kernel
theorem dX12_best_5 : decode cX12_best 5 = .ok (.ifCond .eq 10, 3) := by decide +kernel
theorem dX12_best_8 : decode cX12_best 8 = .ok (.aload_n 0, 1) := by decide +kernel
theorem dX12_best_9 : decode cX12_best 9 = .ok (.getfield 195, 3) := by decide +kernel
theorem dX12_best_12 : decode cX12_best 12 = .ok (.goto 8, 3) := by decide +kernel
theorem dX12_best_15 : decode cX12_best 15 = .ok (.aload_n 0, 1) := by decide +kernel
theorem dX12_best_16 : decode cX12_best 16 = .ok (.iconst 1, 1) := by decide +kernel
theorem dX12_best_17 : decode cX12_best 17 = .ok (.invokevirtual 54, 3) := by decide +kernel
theorem dX12_best_20 : decode cX12_best 20 = .ok (.ireturn, 1) := by decide +kernel
theorem dX12_bestAgain_0 : decode cX12_bestAgain 0 = .ok (.aload_n 0, 1) := by decide +kernel
theorem dX12_bestAgain_1 : decode cX12_bestAgain 1 = .ok (.iload_n 1, 1) := by decide +kernel
theorem dX12_bestAgain_2 : decode cX12_bestAgain 2 = .ok (.invokevirtual 202, 3) := by decide +kernel
theorem dX12_bestAgain_5 : decode cX12_bestAgain 5 = .ok (.ifCond .eq 10, 3) := by decide +kernel
theorem dX12_bestAgain_8 : decode cX12_bestAgain 8 = .ok (.aload_n 0, 1) := by decide +kernel
theorem dX12_bestAgain_9 : decode cX12_bestAgain 9 = .ok (.getfield 195, 3) := by decide +kernel
theorem dX12_bestAgain_12 : decode cX12_bestAgain 12 = .ok (.goto 8, 3) := by decide +kernel
theorem dX12_bestAgain_15 : decode cX12_bestAgain 15 = .ok (.aload_n 0, 1) := by decide +kernel
theorem dX12_bestAgain_16 : decode cX12_bestAgain 16 = .ok (.iconst 1, 1) := by decide +kernel
theorem dX12_bestAgain_17 : decode cX12_bestAgain 17 = .ok (.invokevirtual 54, 3) := by decide +kernel
theorem dX12_bestAgain_20 : decode cX12_bestAgain 20 = .ok (.ireturn, 1) := by decide +kernel
theorem dX12_bestColour_0 : decode cX12_bestColour 0 = .ok (.aload_n 0, 1) := by decide +kernel
theorem dX12_bestColour_1 : decode cX12_bestColour 1 = .ok (.iload_n 1, 1) := by decide +kernel
theorem dX12_bestColour_2 : decode cX12_bestColour 2 = .ok (.invokevirtual 202, 3) := by decide +kernel
theorem dX12_bestColour_5 : decode cX12_bestColour 5 = .ok (.ifCond .ne 9, 3) := by decide +kernel
theorem dX12_bestColour_8 : decode cX12_bestColour 8 = .ok (.aload_n 0, 1) := by decide +kernel
theorem dX12_bestColour_9 : decode cX12_bestColour 9 = .ok (.iconst 1, 1) := by decide +kernel
theorem dX12_bestColour_10 : decode cX12_bestColour 10 = .ok (.invokevirtual 54, 3) := by decide +kernel
theorem dX12_bestColour_13 : decode cX12_bestColour 13 = .ok (.ireturn, 1) := by decide +kernel
theorem dX12_bestColour_14 : decode cX12_bestColour 14 = .ok (.iload_n 2, 1) := by decide +kernel
theorem dX12_bestColour_15 : decode cX12_bestColour 15 = .ok (.iconst 0, 1) := by decide +kernel
theorem dX12_bestColour_16 : decode cX12_bestColour 16 = .ok (.iload_n 1, 1) := by decide +kernel
theorem dX12_bestColour_17 : decode cX12_bestColour 17 = .ok (.invokestatic 205, 3) := by decide +kernel
theorem dX12_bestColour_20 : decode cX12_bestColour 20 = .ok (.iconst 1, 1) := by decide +kernel
theorem dX12_bestColour_21 : decode cX12_bestColour 21 = .ok (.isub, 1) := by decide +kernel
theorem dX12_bestColour_22 : decode cX12_bestColour 22 = .ok (.invokestatic 64, 3) := by decide +kernel
theorem dX12_bestColour_25 : decode cX12_bestColour 25 = .ok (.ifCond .eq 12, 3) := by decide +kernel
theorem dX12_bestColour_28 : decode cX12_bestColour 28 = .ok (.aload_n 0, 1) := by decide +kernel
theorem dX12_bestColour_29 : decode cX12_bestColour 29 = .ok (.getfield 39, 3) := by decide +kernel
theorem dX12_bestColour_32 : decode cX12_bestColour 32 = .ok (.iload_n 2, 1) := by decide +kernel
theorem dX12_bestColour_33 : decode cX12_bestColour 33 = .ok (.iaload, 1) := by decide +kernel
theorem dX12_bestColour_34 : decode cX12_bestColour 34 = .ok (.goto 8, 3) := by decide +kernel
theorem dX12_bestColour_37 : decode cX12_bestColour 37 = .ok (.aload_n 0, 1) := by decide +kernel
theorem dX12_bestColour_38 : decode cX12_bestColour 38 = .ok (.iconst 2, 1) := by decide +kernel
theorem dX12_bestColour_39 : decode cX12_bestColour 39 = .ok (.invokevirtual 54, 3) := by decide +kernel
theorem dX12_bestColour_42 : decode cX12_bestColour 42 = .ok (.ireturn, 1) := by decide +kernel
theorem dX12_piecesOf_0 : decode cX12_piecesOf 0 = .ok (.iconst 0, 1) := by decide +kernel
theorem dX12_piecesOf_1 : decode cX12_piecesOf 1 = .ok (.istore_n 3, 1) := by decide +kernel
theorem dX12_piecesOf_2 : decode cX12_piecesOf 2 = .ok (.iload_n 3, 1) := by decide +kernel
theorem dX12_piecesOf_3 : decode cX12_piecesOf 3 = .ok (.aload_n 0, 1) := by decide +kernel
theorem dX12_piecesOf_4 : decode cX12_piecesOf 4 = .ok (.iload_n 1, 1) := by decide +kernel
theorem dX12_piecesOf_5 : decode cX12_piecesOf 5 = .ok (.iconst 2, 1) := by decide +kernel
theorem dX12_piecesOf_6 : decode cX12_piecesOf 6 = .ok (.invokevirtual 111, 3) := by decide +kernel
theorem dX12_piecesOf_9 : decode cX12_piecesOf 9 = .ok (.if_icmp .ge 31, 3) := by decide +kernel
theorem dX12_piecesOf_12 : decode cX12_piecesOf 12 = .ok (.aload_n 0, 1) := by decide +kernel
theorem dX12_piecesOf_13 : decode cX12_piecesOf 13 = .ok (.iload_n 1, 1) := by decide +kernel
theorem dX12_piecesOf_14 : decode cX12_piecesOf 14 = .ok (.iconst 3, 1) := by decide +kernel
theorem dX12_piecesOf_15 : decode cX12_piecesOf 15 = .ok (.iload_n 3, 1) := by decide +kernel
theorem dX12_piecesOf_16 : decode cX12_piecesOf 16 = .ok (.iadd, 1) := by decide +kernel
theorem dX12_piecesOf_17 : decode cX12_piecesOf 17 = .ok (.invokevirtual 111, 3) := by decide +kernel
theorem dX12_piecesOf_20 : decode cX12_piecesOf 20 = .ok (.iload_n 2, 1) := by decide +kernel
theorem dX12_piecesOf_21 : decode cX12_piecesOf 21 = .ok (.if_icmp .ne 13, 3) := by decide +kernel
theorem dX12_piecesOf_24 : decode cX12_piecesOf 24 = .ok (.aload_n 0, 1) := by decide +kernel
theorem dX12_piecesOf_25 : decode cX12_piecesOf 25 = .ok (.iload_n 1, 1) := by decide +kernel
theorem dX12_piecesOf_26 : decode cX12_piecesOf 26 = .ok (.bipush 6, 2) := by decide +kernel
theorem dX12_piecesOf_28 : decode cX12_piecesOf 28 = .ok (.iload_n 3, 1) := by decide +kernel
theorem dX12_piecesOf_29 : decode cX12_piecesOf 29 = .ok (.iadd, 1) := by decide +kernel
theorem dX12_piecesOf_30 : decode cX12_piecesOf 30 = .ok (.invokevirtual 111, 3) := by decide +kernel
theorem dX12_piecesOf_33 : decode cX12_piecesOf 33 = .ok (.ireturn, 1) := by decide +kernel
theorem dX12_piecesOf_34 : decode cX12_piecesOf 34 = .ok (.iinc 3 1, 3) := by decide +kernel
theorem dX12_piecesOf_37 : decode cX12_piecesOf 37 = .ok (.goto (-35), 3) := by decide +kernel
theorem dX12_piecesOf_40 : decode cX12_piecesOf 40 = .ok (.iconst 0, 1) := by decide +kernel
theorem dX12_piecesOf_41 : decode cX12_piecesOf 41 = .ok (.ireturn, 1) := by decide +kernel
theorem dX12_familyOf_0 : decode cX12_familyOf 0 = .ok (.aload_n 0, 1) := by decide +kernel
theorem dX12_familyOf_1 : decode cX12_familyOf 1 = .ok (.iconst 0, 1) := by decide +kernel
theorem dX12_familyOf_2 : decode cX12_familyOf 2 = .ok (.putfield 45, 3) := by decide +kernel
theorem dX12_familyOf_5 : decode cX12_familyOf 5 = .ok (.aload_n 0, 1) := by decide +kernel
theorem dX12_familyOf_6 : decode cX12_familyOf 6 = .ok (.iload_n 1, 1) := by decide +kernel
theorem dX12_familyOf_7 : decode cX12_familyOf 7 = .ok (.invokevirtual 86, 3) := by decide +kernel
theorem dX12_familyOf_10 : decode cX12_familyOf 10 = .ok (.ifCond .ne 9, 3) := by decide +kernel
theorem dX12_familyOf_13 : decode cX12_familyOf 13 = .ok (.aload_n 0, 1) := by decide +kernel
theorem dX12_familyOf_14 : decode cX12_familyOf 14 = .ok (.iconst 1, 1) := by decide +kernel
theorem dX12_familyOf_15 : decode cX12_familyOf 15 = .ok (.invokevirtual 54, 3) := by decide +kernel
theorem dX12_familyOf_18 : decode cX12_familyOf 18 = .ok (.ireturn, 1) := by decide +kernel
theorem dX12_familyOf_19 : decode cX12_familyOf 19 = .ok (.iload_n 2, 1) := by decide +kernel
theorem dX12_familyOf_20 : decode cX12_familyOf 20 = .ok (.tableswitch 83 0 4 #[36, 36, 36, 43, 67], 36) := by decide +kernel
theorem dX12_familyOf_56 : decode cX12_familyOf 56 = .ok (.aload_n 0, 1) := by decide +kernel
theorem dX12_familyOf_57 : decode cX12_familyOf 57 = .ok (.iload_n 1, 1) := by decide +kernel
theorem dX12_familyOf_58 : decode cX12_familyOf 58 = .ok (.iload_n 2, 1) := by decide +kernel
theorem dX12_familyOf_59 : decode cX12_familyOf 59 = .ok (.invokevirtual 111, 3) := by decide +kernel
theorem dX12_familyOf_62 : decode cX12_familyOf 62 = .ok (.ireturn, 1) := by decide +kernel
theorem dX12_familyOf_63 : decode cX12_familyOf 63 = .ok (.aload_n 0, 1) := by decide +kernel
theorem dX12_familyOf_64 : decode cX12_familyOf 64 = .ok (.iload_n 1, 1) := by decide +kernel
theorem dX12_familyOf_65 : decode cX12_familyOf 65 = .ok (.bipush 6, 2) := by decide +kernel
theorem dX12_familyOf_67 : decode cX12_familyOf 67 = .ok (.invokevirtual 111, 3) := by decide +kernel
theorem dX12_familyOf_70 : decode cX12_familyOf 70 = .ok (.aload_n 0, 1) := by decide +kernel
theorem dX12_familyOf_71 : decode cX12_familyOf 71 = .ok (.iload_n 1, 1) := by decide +kernel
theorem dX12_familyOf_72 : decode cX12_familyOf 72 = .ok (.bipush 7, 2) := by decide +kernel
theorem dX12_familyOf_74 : decode cX12_familyOf 74 = .ok (.invokevirtual 111, 3) := by decide +kernel
theorem dX12_familyOf_77 : decode cX12_familyOf 77 = .ok (.iadd, 1) := by decide +kernel
theorem dX12_familyOf_78 : decode cX12_familyOf 78 = .ok (.aload_n 0, 1) := by decide +kernel
theorem dX12_familyOf_79 : decode cX12_familyOf 79 = .ok (.iload_n 1, 1) := by decide +kernel
theorem dX12_familyOf_80 : decode cX12_familyOf 80 = .ok (.bipush 8, 2) := by decide +kernel
theorem dX12_familyOf_82 : decode cX12_familyOf 82 = .ok (.invokevirtual 111, 3) := by decide +kernel
theorem dX12_familyOf_85 : decode cX12_familyOf 85 = .ok (.iadd, 1) := by decide +kernel
theorem dX12_familyOf_86 : decode cX12_familyOf 86 = .ok (.ireturn, 1) := by decide +kernel
theorem dX12_familyOf_87 : decode cX12_familyOf 87 = .ok (.aload_n 0, 1) := by decide +kernel
theorem dX12_familyOf_88 : decode cX12_familyOf 88 = .ok (.getfield 9, 3) := by decide +kernel
theorem dX12_familyOf_91 : decode cX12_familyOf 91 = .ok (.iconst 4, 1) := by decide +kernel
theorem dX12_familyOf_92 : decode cX12_familyOf 92 = .ok (.iaload, 1) := by decide +kernel
theorem dX12_familyOf_93 : decode cX12_familyOf 93 = .ok (.iload_n 1, 1) := by decide +kernel
theorem dX12_familyOf_94 : decode cX12_familyOf 94 = .ok (.if_icmp .ne 7, 3) := by decide +kernel
theorem dX12_familyOf_97 : decode cX12_familyOf 97 = .ok (.iconst 1, 1) := by decide +kernel
theorem dX12_familyOf_98 : decode cX12_familyOf 98 = .ok (.goto 4, 3) := by decide +kernel
theorem dX12_familyOf_101 : decode cX12_familyOf 101 = .ok (.iconst 0, 1) := by decide +kernel
theorem dX12_familyOf_102 : decode cX12_familyOf 102 = .ok (.ireturn, 1) := by decide +kernel
theorem dX12_familyOf_103 : decode cX12_familyOf 103 = .ok (.aload_n 0, 1) := by decide +kernel
theorem dX12_familyOf_104 : decode cX12_familyOf 104 = .ok (.iconst 2, 1) := by decide +kernel
theorem dX12_familyOf_105 : decode cX12_familyOf 105 = .ok (.invokevirtual 54, 3) := by decide +kernel
theorem dX12_familyOf_108 : decode cX12_familyOf 108 = .ok (.ireturn, 1) := by decide +kernel
theorem dX12_pieces_0 : decode cX12_pieces 0 = .ok (.aload_n 0, 1) := by decide +kernel
theorem dX12_pieces_1 : decode cX12_pieces 1 = .ok (.iconst 0, 1) := by decide +kernel
theorem dX12_pieces_2 : decode cX12_pieces 2 = .ok (.putfield 45, 3) := by decide +kernel
theorem dX12_pieces_5 : decode cX12_pieces 5 = .ok (.aload_n 0, 1) := by decide +kernel
theorem dX12_pieces_6 : decode cX12_pieces 6 = .ok (.iload_n 1, 1) := by decide +kernel
theorem dX12_pieces_7 : decode cX12_pieces 7 = .ok (.invokevirtual 86, 3) := by decide +kernel
theorem dX12_pieces_10 : decode cX12_pieces 10 = .ok (.ifCond .eq 20, 3) := by decide +kernel
theorem dX12_pieces_13 : decode cX12_pieces 13 = .ok (.aload_n 0, 1) := by decide +kernel
theorem dX12_pieces_14 : decode cX12_pieces 14 = .ok (.iload_n 2, 1) := by decide +kernel
theorem dX12_pieces_15 : decode cX12_pieces 15 = .ok (.invokevirtual 83, 3) := by decide +kernel
theorem dX12_pieces_18 : decode cX12_pieces 18 = .ok (.ifCond .eq 12, 3) := by decide +kernel
theorem dX12_pieces_21 : decode cX12_pieces 21 = .ok (.aload_n 0, 1) := by decide +kernel
theorem dX12_pieces_22 : decode cX12_pieces 22 = .ok (.iload_n 1, 1) := by decide +kernel
theorem dX12_pieces_23 : decode cX12_pieces 23 = .ok (.iload_n 2, 1) := by decide +kernel
theorem dX12_pieces_24 : decode cX12_pieces 24 = .ok (.invokevirtual 210, 3) := by decide +kernel
theorem dX12_pieces_27 : decode cX12_pieces 27 = .ok (.goto 8, 3) := by decide +kernel
theorem dX12_pieces_30 : decode cX12_pieces 30 = .ok (.aload_n 0, 1) := by decide +kernel
theorem dX12_pieces_31 : decode cX12_pieces 31 = .ok (.iconst 1, 1) := by decide +kernel
theorem dX12_pieces_32 : decode cX12_pieces 32 = .ok (.invokevirtual 54, 3) := by decide +kernel
theorem dX12_pieces_35 : decode cX12_pieces 35 = .ok (.ireturn, 1) := by decide +kernel
theorem dX12_families_0 : decode cX12_families 0 = .ok (.aload_n 0, 1) := by decide +kernel
theorem dX12_families_1 : decode cX12_families 1 = .ok (.iconst 0, 1) := by decide +kernel
theorem dX12_families_2 : decode cX12_families 2 = .ok (.putfield 45, 3) := by decide +kernel
theorem dX12_families_5 : decode cX12_families 5 = .ok (.aload_n 0, 1) := by decide +kernel
theorem dX12_families_6 : decode cX12_families 6 = .ok (.iload_n 1, 1) := by decide +kernel
theorem dX12_families_7 : decode cX12_families 7 = .ok (.invokevirtual 83, 3) := by decide +kernel
theorem dX12_families_10 : decode cX12_families 10 = .ok (.ifCond .ne 9, 3) := by decide +kernel
theorem dX12_families_13 : decode cX12_families 13 = .ok (.aload_n 0, 1) := by decide +kernel
theorem dX12_families_14 : decode cX12_families 14 = .ok (.iconst 1, 1) := by decide +kernel
theorem dX12_families_15 : decode cX12_families 15 = .ok (.invokevirtual 54, 3) := by decide +kernel
theorem dX12_families_18 : decode cX12_families 18 = .ok (.ireturn, 1) := by decide +kernel
theorem dX12_families_19 : decode cX12_families 19 = .ok (.iconst 0, 1) := by decide +kernel
theorem dX12_families_20 : decode cX12_families 20 = .ok (.istore_n 2, 1) := by decide +kernel
theorem dX12_families_21 : decode cX12_families 21 = .ok (.iconst 0, 1) := by decide +kernel
theorem dX12_families_22 : decode cX12_families 22 = .ok (.istore_n 3, 1) := by decide +kernel
theorem dX12_families_23 : decode cX12_families 23 = .ok (.iload_n 3, 1) := by decide +kernel
theorem dX12_families_24 : decode cX12_families 24 = .ok (.aload_n 0, 1) := by decide +kernel
theorem dX12_families_25 : decode cX12_families 25 = .ok (.getfield 9, 3) := by decide +kernel
theorem dX12_families_28 : decode cX12_families 28 = .ok (.iconst 2, 1) := by decide +kernel
theorem dX12_families_29 : decode cX12_families 29 = .ok (.iaload, 1) := by decide +kernel
theorem dX12_families_30 : decode cX12_families 30 = .ok (.if_icmp .ge 24, 3) := by decide +kernel
theorem dX12_families_33 : decode cX12_families 33 = .ok (.aload_n 0, 1) := by decide +kernel
theorem dX12_families_34 : decode cX12_families 34 = .ok (.iload_n 3, 1) := by decide +kernel
theorem dX12_families_35 : decode cX12_families 35 = .ok (.iload_n 1, 1) := by decide +kernel
theorem dX12_families_36 : decode cX12_families 36 = .ok (.invokevirtual 210, 3) := by decide +kernel
theorem dX12_families_39 : decode cX12_families 39 = .ok (.ifCond .le 9, 3) := by decide +kernel
theorem dX12_families_42 : decode cX12_families 42 = .ok (.iload_n 2, 1) := by decide +kernel
theorem dX12_families_43 : decode cX12_families 43 = .ok (.iconst 1, 1) := by decide +kernel
theorem dX12_families_44 : decode cX12_families 44 = .ok (.iload_n 3, 1) := by decide +kernel
theorem dX12_families_45 : decode cX12_families 45 = .ok (.ishl, 1) := by decide +kernel
theorem dX12_families_46 : decode cX12_families 46 = .ok (.ior, 1) := by decide +kernel
theorem dX12_families_47 : decode cX12_families 47 = .ok (.istore_n 2, 1) := by decide +kernel
theorem dX12_families_48 : decode cX12_families 48 = .ok (.iinc 3 1, 3) := by decide +kernel
theorem dX12_families_51 : decode cX12_families 51 = .ok (.goto (-28), 3) := by decide +kernel
theorem dX12_families_54 : decode cX12_families 54 = .ok (.iload_n 2, 1) := by decide +kernel
theorem dX12_families_55 : decode cX12_families 55 = .ok (.ireturn, 1) := by decide +kernel
theorem dX12_dryer_0 : decode cX12_dryer 0 = .ok (.aload_n 0, 1) := by decide +kernel
theorem dX12_dryer_1 : decode cX12_dryer 1 = .ok (.iconst 0, 1) := by decide +kernel
theorem dX12_dryer_2 : decode cX12_dryer 2 = .ok (.putfield 45, 3) := by decide +kernel
theorem dX12_dryer_5 : decode cX12_dryer 5 = .ok (.iload_n 1, 1) := by decide +kernel
theorem dX12_dryer_6 : decode cX12_dryer 6 = .ok (.invokestatic 92, 3) := by decide +kernel
theorem dX12_dryer_9 : decode cX12_dryer 9 = .ok (.ifCond .ne 9, 3) := by decide +kernel
theorem dX12_dryer_12 : decode cX12_dryer 12 = .ok (.aload_n 0, 1) := by decide +kernel
theorem dX12_dryer_13 : decode cX12_dryer 13 = .ok (.iconst 1, 1) := by decide +kernel
theorem dX12_dryer_14 : decode cX12_dryer 14 = .ok (.invokevirtual 54, 3) := by decide +kernel
theorem dX12_dryer_17 : decode cX12_dryer 17 = .ok (.ireturn, 1) := by decide +kernel
theorem dX12_dryer_18 : decode cX12_dryer 18 = .ok (.iload_n 2, 1) := by decide +kernel
theorem dX12_dryer_19 : decode cX12_dryer 19 = .ok (.iconst 0, 1) := by decide +kernel
theorem dX12_dryer_20 : decode cX12_dryer 20 = .ok (.iconst 3, 1) := by decide +kernel
theorem dX12_dryer_21 : decode cX12_dryer 21 = .ok (.invokestatic 64, 3) := by decide +kernel
theorem dX12_dryer_24 : decode cX12_dryer 24 = .ok (.ifCond .ne 9, 3) := by decide +kernel
theorem dX12_dryer_27 : decode cX12_dryer 27 = .ok (.aload_n 0, 1) := by decide +kernel
theorem dX12_dryer_28 : decode cX12_dryer 28 = .ok (.iconst 2, 1) := by decide +kernel
theorem dX12_dryer_29 : decode cX12_dryer 29 = .ok (.invokevirtual 54, 3) := by decide +kernel
theorem dX12_dryer_32 : decode cX12_dryer 32 = .ok (.ireturn, 1) := by decide +kernel
theorem dX12_dryer_33 : decode cX12_dryer 33 = .ok (.bipush 100, 2) := by decide +kernel
theorem dX12_dryer_35 : decode cX12_dryer 35 = .ok (.iconst 3, 1) := by decide +kernel
theorem dX12_dryer_36 : decode cX12_dryer 36 = .ok (.iload_n 1, 1) := by decide +kernel
theorem dX12_dryer_37 : decode cX12_dryer 37 = .ok (.imul, 1) := by decide +kernel
theorem dX12_dryer_38 : decode cX12_dryer 38 = .ok (.iadd, 1) := by decide +kernel
theorem dX12_dryer_39 : decode cX12_dryer 39 = .ok (.istore_n 3, 1) := by decide +kernel
theorem dX12_dryer_40 : decode cX12_dryer 40 = .ok (.iload_n 2, 1) := by decide +kernel
theorem dX12_dryer_41 : decode cX12_dryer 41 = .ok (.iconst 3, 1) := by decide +kernel
theorem dX12_dryer_42 : decode cX12_dryer 42 = .ok (.if_icmp .ge 12, 3) := by decide +kernel
theorem dX12_dryer_45 : decode cX12_dryer 45 = .ok (.aload_n 0, 1) := by decide +kernel
theorem dX12_dryer_46 : decode cX12_dryer 46 = .ok (.getfield 9, 3) := by decide +kernel
theorem dX12_dryer_49 : decode cX12_dryer 49 = .ok (.iload_n 3, 1) := by decide +kernel
theorem dX12_dryer_50 : decode cX12_dryer 50 = .ok (.iload_n 2, 1) := by decide +kernel
theorem dX12_dryer_51 : decode cX12_dryer 51 = .ok (.iadd, 1) := by decide +kernel
theorem dX12_dryer_52 : decode cX12_dryer 52 = .ok (.iaload, 1) := by decide +kernel
theorem dX12_dryer_53 : decode cX12_dryer 53 = .ok (.ireturn, 1) := by decide +kernel
theorem dX12_dryer_54 : decode cX12_dryer 54 = .ok (.aload_n 0, 1) := by decide +kernel
theorem dX12_dryer_55 : decode cX12_dryer 55 = .ok (.getfield 9, 3) := by decide +kernel
theorem dX12_dryer_58 : decode cX12_dryer 58 = .ok (.iload_n 3, 1) := by decide +kernel
theorem dX12_dryer_59 : decode cX12_dryer 59 = .ok (.iaload, 1) := by decide +kernel
theorem dX12_dryer_60 : decode cX12_dryer 60 = .ok (.ifCond .ge 7, 3) := by decide +kernel
theorem dX12_dryer_63 : decode cX12_dryer 63 = .ok (.iconst 0, 1) := by decide +kernel
theorem dX12_dryer_64 : decode cX12_dryer 64 = .ok (.goto 23, 3) := by decide +kernel
theorem dX12_dryer_67 : decode cX12_dryer 67 = .ok (.iconst 0, 1) := by decide +kernel
theorem dX12_dryer_68 : decode cX12_dryer 68 = .ok (.aload_n 0, 1) := by decide +kernel
theorem dX12_dryer_69 : decode cX12_dryer 69 = .ok (.getfield 9, 3) := by decide +kernel
theorem dX12_dryer_72 : decode cX12_dryer 72 = .ok (.bipush 13, 2) := by decide +kernel
theorem dX12_dryer_74 : decode cX12_dryer 74 = .ok (.iaload, 1) := by decide +kernel
theorem dX12_dryer_75 : decode cX12_dryer 75 = .ok (.aload_n 0, 1) := by decide +kernel
theorem dX12_dryer_76 : decode cX12_dryer 76 = .ok (.getfield 9, 3) := by decide +kernel
theorem dX12_dryer_79 : decode cX12_dryer 79 = .ok (.iload_n 3, 1) := by decide +kernel
theorem dX12_dryer_80 : decode cX12_dryer 80 = .ok (.iconst 2, 1) := by decide +kernel
theorem dX12_dryer_81 : decode cX12_dryer 81 = .ok (.iadd, 1) := by decide +kernel
theorem dX12_dryer_82 : decode cX12_dryer 82 = .ok (.iaload, 1) := by decide +kernel
theorem dX12_dryer_83 : decode cX12_dryer 83 = .ok (.isub, 1) := by decide +kernel
theorem dX12_dryer_84 : decode cX12_dryer 84 = .ok (.invokestatic 103, 3) := by decide +kernel
theorem dX12_dryer_87 : decode cX12_dryer 87 = .ok (.ireturn, 1) := by decide +kernel
theorem dX12_stock_0 : decode cX12_stock 0 = .ok (.aload_n 0, 1) := by decide +kernel
theorem dX12_stock_1 : decode cX12_stock 1 = .ok (.iconst 0, 1) := by decide +kernel
theorem dX12_stock_2 : decode cX12_stock 2 = .ok (.putfield 45, 3) := by decide +kernel
theorem dX12_stock_5 : decode cX12_stock 5 = .ok (.aload_n 0, 1) := by decide +kernel
theorem dX12_stock_6 : decode cX12_stock 6 = .ok (.iload_n 1, 1) := by decide +kernel
theorem dX12_stock_7 : decode cX12_stock 7 = .ok (.invokevirtual 83, 3) := by decide +kernel
theorem dX12_stock_10 : decode cX12_stock 10 = .ok (.ifCond .eq 11, 3) := by decide +kernel
theorem dX12_stock_13 : decode cX12_stock 13 = .ok (.aload_n 0, 1) := by decide +kernel
theorem dX12_stock_14 : decode cX12_stock 14 = .ok (.iload_n 2, 1) := by decide +kernel
theorem dX12_stock_15 : decode cX12_stock 15 = .ok (.invokevirtual 95, 3) := by decide +kernel
theorem dX12_stock_18 : decode cX12_stock 18 = .ok (.ifCond .ne 9, 3) := by decide +kernel
theorem dX12_stock_21 : decode cX12_stock 21 = .ok (.aload_n 0, 1) := by decide +kernel
theorem dX12_stock_22 : decode cX12_stock 22 = .ok (.iconst 1, 1) := by decide +kernel
theorem dX12_stock_23 : decode cX12_stock 23 = .ok (.invokevirtual 54, 3) := by decide +kernel
theorem dX12_stock_26 : decode cX12_stock 26 = .ok (.ireturn, 1) := by decide +kernel
theorem dX12_stock_27 : decode cX12_stock 27 = .ok (.iload_n 1, 1) := by decide +kernel
theorem dX12_stock_28 : decode cX12_stock 28 = .ok (.iload_n 2, 1) := by decide +kernel
theorem dX12_stock_29 : decode cX12_stock 29 = .ok (.invokestatic 68, 3) := by decide +kernel
theorem dX12_stock_32 : decode cX12_stock 32 = .ok (.istore 4, 2) := by decide +kernel
theorem dX12_stock_34 : decode cX12_stock 34 = .ok (.iload_n 3, 1) := by decide +kernel
theorem dX12_stock_35 : decode cX12_stock 35 = .ok (.tableswitch 60 0 2 #[25, 36, 48], 25) := by decide +kernel
theorem dX12_stock_60 : decode cX12_stock 60 = .ok (.aload_n 0, 1) := by decide +kernel
theorem dX12_stock_61 : decode cX12_stock 61 = .ok (.getfield 9, 3) := by decide +kernel
theorem dX12_stock_64 : decode cX12_stock 64 = .ok (.bipush 109, 2) := by decide +kernel
theorem dX12_stock_66 : decode cX12_stock 66 = .ok (.iload 4, 2) := by decide +kernel
theorem dX12_stock_68 : decode cX12_stock 68 = .ok (.iadd, 1) := by decide +kernel
theorem dX12_stock_69 : decode cX12_stock 69 = .ok (.iaload, 1) := by decide +kernel
theorem dX12_stock_70 : decode cX12_stock 70 = .ok (.ireturn, 1) := by decide +kernel
theorem dX12_stock_71 : decode cX12_stock 71 = .ok (.aload_n 0, 1) := by decide +kernel
theorem dX12_stock_72 : decode cX12_stock 72 = .ok (.getfield 9, 3) := by decide +kernel
theorem dX12_stock_75 : decode cX12_stock 75 = .ok (.sipush 157, 3) := by decide +kernel
theorem dX12_stock_78 : decode cX12_stock 78 = .ok (.iload 4, 2) := by decide +kernel
theorem dX12_stock_80 : decode cX12_stock 80 = .ok (.iadd, 1) := by decide +kernel
theorem dX12_stock_81 : decode cX12_stock 81 = .ok (.iaload, 1) := by decide +kernel
theorem dX12_stock_82 : decode cX12_stock 82 = .ok (.ireturn, 1) := by decide +kernel
theorem dX12_stock_83 : decode cX12_stock 83 = .ok (.aload_n 0, 1) := by decide +kernel
theorem dX12_stock_84 : decode cX12_stock 84 = .ok (.getfield 9, 3) := by decide +kernel
theorem dX12_stock_87 : decode cX12_stock 87 = .ok (.sipush 205, 3) := by decide +kernel
theorem dX12_stock_90 : decode cX12_stock 90 = .ok (.iload 4, 2) := by decide +kernel
theorem dX12_stock_92 : decode cX12_stock 92 = .ok (.iadd, 1) := by decide +kernel
theorem dX12_stock_93 : decode cX12_stock 93 = .ok (.iaload, 1) := by decide +kernel
theorem dX12_stock_94 : decode cX12_stock 94 = .ok (.ireturn, 1) := by decide +kernel
theorem dX12_stock_95 : decode cX12_stock 95 = .ok (.aload_n 0, 1) := by decide +kernel
theorem dX12_stock_96 : decode cX12_stock 96 = .ok (.iconst 2, 1) := by decide +kernel
theorem dX12_stock_97 : decode cX12_stock 97 = .ok (.invokevirtual 54, 3) := by decide +kernel
theorem dX12_stock_100 : decode cX12_stock 100 = .ok (.ireturn, 1) := by decide +kernel
theorem dX12_made_0 : decode cX12_made 0 = .ok (.aload_n 0, 1) := by decide +kernel
theorem dX12_made_1 : decode cX12_made 1 = .ok (.iconst 0, 1) := by decide +kernel
theorem dX12_made_2 : decode cX12_made 2 = .ok (.putfield 45, 3) := by decide +kernel
theorem dX12_made_5 : decode cX12_made 5 = .ok (.aload_n 0, 1) := by decide +kernel
theorem dX12_made_6 : decode cX12_made 6 = .ok (.iload_n 1, 1) := by decide +kernel
theorem dX12_made_7 : decode cX12_made 7 = .ok (.invokevirtual 83, 3) := by decide +kernel
theorem dX12_made_10 : decode cX12_made 10 = .ok (.ifCond .ne 9, 3) := by decide +kernel
theorem dX12_made_13 : decode cX12_made 13 = .ok (.aload_n 0, 1) := by decide +kernel
theorem dX12_made_14 : decode cX12_made 14 = .ok (.iconst 1, 1) := by decide +kernel
theorem dX12_made_15 : decode cX12_made 15 = .ok (.invokevirtual 54, 3) := by decide +kernel
theorem dX12_made_18 : decode cX12_made 18 = .ok (.ireturn, 1) := by decide +kernel
theorem dX12_made_19 : decode cX12_made 19 = .ok (.iconst 0, 1) := by decide +kernel
theorem dX12_made_20 : decode cX12_made 20 = .ok (.istore_n 3, 1) := by decide +kernel
theorem dX12_made_21 : decode cX12_made 21 = .ok (.iload_n 2, 1) := by decide +kernel
theorem dX12_made_22 : decode cX12_made 22 = .ok (.tableswitch 147 0 3 #[30, 40, 101, 137], 30) := by decide +kernel
theorem dX12_made_52 : decode cX12_made 52 = .ok (.aload_n 0, 1) := by decide +kernel
theorem dX12_made_53 : decode cX12_made 53 = .ok (.getfield 9, 3) := by decide +kernel
theorem dX12_made_56 : decode cX12_made 56 = .ok (.bipush 30, 2) := by decide +kernel
theorem dX12_made_58 : decode cX12_made 58 = .ok (.iload_n 1, 1) := by decide +kernel
theorem dX12_made_59 : decode cX12_made 59 = .ok (.iadd, 1) := by decide +kernel
theorem dX12_made_60 : decode cX12_made 60 = .ok (.iaload, 1) := by decide +kernel
theorem dX12_made_61 : decode cX12_made 61 = .ok (.ireturn, 1) := by decide +kernel
theorem dX12_made_62 : decode cX12_made 62 = .ok (.iconst 0, 1) := by decide +kernel
theorem dX12_made_63 : decode cX12_made 63 = .ok (.istore 4, 2) := by decide +kernel
theorem dX12_made_65 : decode cX12_made 65 = .ok (.iload 4, 2) := by decide +kernel
theorem dX12_made_67 : decode cX12_made 67 = .ok (.bipush 6, 2) := by decide +kernel
theorem dX12_made_69 : decode cX12_made 69 = .ok (.if_icmp .ge 42, 3) := by decide +kernel
theorem dX12_made_72 : decode cX12_made 72 = .ok (.iload_n 3, 1) := by decide +kernel
theorem dX12_made_73 : decode cX12_made 73 = .ok (.aload_n 0, 1) := by decide +kernel
theorem dX12_made_74 : decode cX12_made 74 = .ok (.getfield 9, 3) := by decide +kernel
theorem dX12_made_77 : decode cX12_made 77 = .ok (.bipush 109, 2) := by decide +kernel
theorem dX12_made_79 : decode cX12_made 79 = .ok (.iload_n 1, 1) := by decide +kernel
theorem dX12_made_80 : decode cX12_made 80 = .ok (.iload 4, 2) := by decide +kernel
theorem dX12_made_82 : decode cX12_made 82 = .ok (.invokestatic 68, 3) := by decide +kernel
theorem dX12_made_85 : decode cX12_made 85 = .ok (.iadd, 1) := by decide +kernel
theorem dX12_made_86 : decode cX12_made 86 = .ok (.iaload, 1) := by decide +kernel
theorem dX12_made_87 : decode cX12_made 87 = .ok (.aload_n 0, 1) := by decide +kernel
theorem dX12_made_88 : decode cX12_made 88 = .ok (.getfield 9, 3) := by decide +kernel
theorem dX12_made_91 : decode cX12_made 91 = .ok (.sipush 205, 3) := by decide +kernel
theorem dX12_made_94 : decode cX12_made 94 = .ok (.iload_n 1, 1) := by decide +kernel
theorem dX12_made_95 : decode cX12_made 95 = .ok (.iload 4, 2) := by decide +kernel
theorem dX12_made_97 : decode cX12_made 97 = .ok (.invokestatic 68, 3) := by decide +kernel
theorem dX12_made_100 : decode cX12_made 100 = .ok (.iadd, 1) := by decide +kernel
theorem dX12_made_101 : decode cX12_made 101 = .ok (.iaload, 1) := by decide +kernel
theorem dX12_made_102 : decode cX12_made 102 = .ok (.iadd, 1) := by decide +kernel
theorem dX12_made_103 : decode cX12_made 103 = .ok (.iadd, 1) := by decide +kernel
theorem dX12_made_104 : decode cX12_made 104 = .ok (.istore_n 3, 1) := by decide +kernel
theorem dX12_made_105 : decode cX12_made 105 = .ok (.iinc 4 1, 3) := by decide +kernel
theorem dX12_made_108 : decode cX12_made 108 = .ok (.goto (-43), 3) := by decide +kernel
theorem dX12_made_111 : decode cX12_made 111 = .ok (.iload_n 3, 1) := by decide +kernel
theorem dX12_made_112 : decode cX12_made 112 = .ok (.aload_n 0, 1) := by decide +kernel
theorem dX12_made_113 : decode cX12_made 113 = .ok (.getfield 9, 3) := by decide +kernel
theorem dX12_made_116 : decode cX12_made 116 = .ok (.bipush 22, 2) := by decide +kernel
theorem dX12_made_118 : decode cX12_made 118 = .ok (.iload_n 1, 1) := by decide +kernel
theorem dX12_made_119 : decode cX12_made 119 = .ok (.iadd, 1) := by decide +kernel
theorem dX12_made_120 : decode cX12_made 120 = .ok (.iaload, 1) := by decide +kernel
theorem dX12_made_121 : decode cX12_made 121 = .ok (.imul, 1) := by decide +kernel
theorem dX12_made_122 : decode cX12_made 122 = .ok (.ireturn, 1) := by decide +kernel
theorem dX12_made_123 : decode cX12_made 123 = .ok (.iconst 0, 1) := by decide +kernel
theorem dX12_made_124 : decode cX12_made 124 = .ok (.istore 4, 2) := by decide +kernel
theorem dX12_made_126 : decode cX12_made 126 = .ok (.iload 4, 2) := by decide +kernel
theorem dX12_made_128 : decode cX12_made 128 = .ok (.bipush 6, 2) := by decide +kernel
theorem dX12_made_130 : decode cX12_made 130 = .ok (.if_icmp .ge 27, 3) := by decide +kernel
theorem dX12_made_133 : decode cX12_made 133 = .ok (.iload_n 3, 1) := by decide +kernel
theorem dX12_made_134 : decode cX12_made 134 = .ok (.aload_n 0, 1) := by decide +kernel
theorem dX12_made_135 : decode cX12_made 135 = .ok (.getfield 9, 3) := by decide +kernel
theorem dX12_made_138 : decode cX12_made 138 = .ok (.sipush 157, 3) := by decide +kernel
theorem dX12_made_141 : decode cX12_made 141 = .ok (.iload_n 1, 1) := by decide +kernel
theorem dX12_made_142 : decode cX12_made 142 = .ok (.iload 4, 2) := by decide +kernel
theorem dX12_made_144 : decode cX12_made 144 = .ok (.invokestatic 68, 3) := by decide +kernel
theorem dX12_made_147 : decode cX12_made 147 = .ok (.iadd, 1) := by decide +kernel
theorem dX12_made_148 : decode cX12_made 148 = .ok (.iaload, 1) := by decide +kernel
theorem dX12_made_149 : decode cX12_made 149 = .ok (.iadd, 1) := by decide +kernel
theorem dX12_made_150 : decode cX12_made 150 = .ok (.istore_n 3, 1) := by decide +kernel
theorem dX12_made_151 : decode cX12_made 151 = .ok (.iinc 4 1, 3) := by decide +kernel
theorem dX12_made_154 : decode cX12_made 154 = .ok (.goto (-28), 3) := by decide +kernel
theorem dX12_made_157 : decode cX12_made 157 = .ok (.iload_n 3, 1) := by decide +kernel
theorem dX12_made_158 : decode cX12_made 158 = .ok (.ireturn, 1) := by decide +kernel
theorem dX12_made_159 : decode cX12_made 159 = .ok (.aload_n 0, 1) := by decide +kernel
theorem dX12_made_160 : decode cX12_made 160 = .ok (.getfield 9, 3) := by decide +kernel
theorem dX12_made_163 : decode cX12_made 163 = .ok (.bipush 38, 2) := by decide +kernel
theorem dX12_made_165 : decode cX12_made 165 = .ok (.iload_n 1, 1) := by decide +kernel
theorem dX12_made_166 : decode cX12_made 166 = .ok (.iadd, 1) := by decide +kernel
theorem dX12_made_167 : decode cX12_made 167 = .ok (.iaload, 1) := by decide +kernel
theorem dX12_made_168 : decode cX12_made 168 = .ok (.ireturn, 1) := by decide +kernel
theorem dX12_made_169 : decode cX12_made 169 = .ok (.aload_n 0, 1) := by decide +kernel
theorem dX12_made_170 : decode cX12_made 170 = .ok (.iconst 2, 1) := by decide +kernel
theorem dX12_made_171 : decode cX12_made 171 = .ok (.invokevirtual 54, 3) := by decide +kernel
theorem dX12_made_174 : decode cX12_made 174 = .ok (.ireturn, 1) := by decide +kernel
theorem dX12_orderOf_0 : decode cX12_orderOf 0 = .ok (.aload_n 0, 1) := by decide +kernel
theorem dX12_orderOf_1 : decode cX12_orderOf 1 = .ok (.iconst 0, 1) := by decide +kernel
theorem dX12_orderOf_2 : decode cX12_orderOf 2 = .ok (.putfield 45, 3) := by decide +kernel
theorem dX12_orderOf_5 : decode cX12_orderOf 5 = .ok (.aload_n 0, 1) := by decide +kernel
theorem dX12_orderOf_6 : decode cX12_orderOf 6 = .ok (.iload_n 1, 1) := by decide +kernel
theorem dX12_orderOf_7 : decode cX12_orderOf 7 = .ok (.invokevirtual 121, 3) := by decide +kernel
theorem dX12_orderOf_10 : decode cX12_orderOf 10 = .ok (.ifCond .ne 9, 3) := by decide +kernel
theorem dX12_orderOf_13 : decode cX12_orderOf 13 = .ok (.aload_n 0, 1) := by decide +kernel
theorem dX12_orderOf_14 : decode cX12_orderOf 14 = .ok (.iconst 1, 1) := by decide +kernel
theorem dX12_orderOf_15 : decode cX12_orderOf 15 = .ok (.invokevirtual 54, 3) := by decide +kernel
theorem dX12_orderOf_18 : decode cX12_orderOf 18 = .ok (.ireturn, 1) := by decide +kernel
theorem dX12_orderOf_19 : decode cX12_orderOf 19 = .ok (.iload_n 2, 1) := by decide +kernel
theorem dX12_orderOf_20 : decode cX12_orderOf 20 = .ok (.iconst 0, 1) := by decide +kernel
theorem dX12_orderOf_21 : decode cX12_orderOf 21 = .ok (.iconst 5, 1) := by decide +kernel
theorem dX12_orderOf_22 : decode cX12_orderOf 22 = .ok (.invokestatic 64, 3) := by decide +kernel
theorem dX12_orderOf_25 : decode cX12_orderOf 25 = .ok (.ifCond .eq 12, 3) := by decide +kernel
theorem dX12_orderOf_28 : decode cX12_orderOf 28 = .ok (.aload_n 0, 1) := by decide +kernel
theorem dX12_orderOf_29 : decode cX12_orderOf 29 = .ok (.iload_n 1, 1) := by decide +kernel
theorem dX12_orderOf_30 : decode cX12_orderOf 30 = .ok (.iload_n 2, 1) := by decide +kernel
theorem dX12_orderOf_31 : decode cX12_orderOf 31 = .ok (.invokevirtual 118, 3) := by decide +kernel
theorem dX12_orderOf_34 : decode cX12_orderOf 34 = .ok (.goto 8, 3) := by decide +kernel
theorem dX12_orderOf_37 : decode cX12_orderOf 37 = .ok (.aload_n 0, 1) := by decide +kernel
theorem dX12_orderOf_38 : decode cX12_orderOf 38 = .ok (.iconst 2, 1) := by decide +kernel
theorem dX12_orderOf_39 : decode cX12_orderOf 39 = .ok (.invokevirtual 54, 3) := by decide +kernel
theorem dX12_orderOf_42 : decode cX12_orderOf 42 = .ok (.ireturn, 1) := by decide +kernel
theorem dX12_shots_0 : decode cX12_shots 0 = .ok (.aload_n 0, 1) := by decide +kernel
theorem dX12_shots_1 : decode cX12_shots 1 = .ok (.iconst 0, 1) := by decide +kernel
theorem dX12_shots_2 : decode cX12_shots 2 = .ok (.putfield 45, 3) := by decide +kernel
theorem dX12_shots_5 : decode cX12_shots 5 = .ok (.aload_n 0, 1) := by decide +kernel
theorem dX12_shots_6 : decode cX12_shots 6 = .ok (.iload_n 1, 1) := by decide +kernel
theorem dX12_shots_7 : decode cX12_shots 7 = .ok (.invokevirtual 121, 3) := by decide +kernel
theorem dX12_shots_10 : decode cX12_shots 10 = .ok (.ifCond .ne 9, 3) := by decide +kernel
theorem dX12_shots_13 : decode cX12_shots 13 = .ok (.aload_n 0, 1) := by decide +kernel
theorem dX12_shots_14 : decode cX12_shots 14 = .ok (.iconst 1, 1) := by decide +kernel
theorem dX12_shots_15 : decode cX12_shots 15 = .ok (.invokevirtual 54, 3) := by decide +kernel
theorem dX12_shots_18 : decode cX12_shots 18 = .ok (.ireturn, 1) := by decide +kernel
theorem dX12_shots_19 : decode cX12_shots 19 = .ok (.aload_n 0, 1) := by decide +kernel
theorem dX12_shots_20 : decode cX12_shots 20 = .ok (.iload_n 1, 1) := by decide +kernel
theorem dX12_shots_21 : decode cX12_shots 21 = .ok (.iconst 0, 1) := by decide +kernel
theorem dX12_shots_22 : decode cX12_shots 22 = .ok (.invokevirtual 118, 3) := by decide +kernel
theorem dX12_shots_25 : decode cX12_shots 25 = .ok (.istore_n 2, 1) := by decide +kernel
theorem dX12_shots_26 : decode cX12_shots 26 = .ok (.aload_n 0, 1) := by decide +kernel
theorem dX12_shots_27 : decode cX12_shots 27 = .ok (.getfield 9, 3) := by decide +kernel
theorem dX12_shots_30 : decode cX12_shots 30 = .ok (.iconst 4, 1) := by decide +kernel
theorem dX12_shots_31 : decode cX12_shots 31 = .ok (.iaload, 1) := by decide +kernel
theorem dX12_shots_32 : decode cX12_shots 32 = .ok (.istore_n 3, 1) := by decide +kernel
theorem dX12_shots_33 : decode cX12_shots 33 = .ok (.aload_n 0, 1) := by decide +kernel
theorem dX12_shots_34 : decode cX12_shots 34 = .ok (.iload_n 1, 1) := by decide +kernel
theorem dX12_shots_35 : decode cX12_shots 35 = .ok (.iconst 4, 1) := by decide +kernel
theorem dX12_shots_36 : decode cX12_shots 36 = .ok (.invokevirtual 118, 3) := by decide +kernel
theorem dX12_shots_39 : decode cX12_shots 39 = .ok (.ifCond .ne 16, 3) := by decide +kernel
theorem dX12_shots_42 : decode cX12_shots 42 = .ok (.iload_n 3, 1) := by decide +kernel
theorem dX12_shots_43 : decode cX12_shots 43 = .ok (.ifCond .lt 12, 3) := by decide +kernel
theorem dX12_shots_46 : decode cX12_shots 46 = .ok (.aload_n 0, 1) := by decide +kernel
theorem dX12_shots_47 : decode cX12_shots 47 = .ok (.iload_n 3, 1) := by decide +kernel
theorem dX12_shots_48 : decode cX12_shots 48 = .ok (.iload_n 2, 1) := by decide +kernel
theorem dX12_shots_49 : decode cX12_shots 49 = .ok (.invokevirtual 210, 3) := by decide +kernel
theorem dX12_shots_52 : decode cX12_shots 52 = .ok (.ifCond .ne 9, 3) := by decide +kernel
theorem dX12_shots_55 : decode cX12_shots 55 = .ok (.aload_n 0, 1) := by decide +kernel
theorem dX12_shots_56 : decode cX12_shots 56 = .ok (.iconst 2, 1) := by decide +kernel
theorem dX12_shots_57 : decode cX12_shots 57 = .ok (.invokevirtual 54, 3) := by decide +kernel
theorem dX12_shots_60 : decode cX12_shots 60 = .ok (.ireturn, 1) := by decide +kernel
theorem dX12_shots_61 : decode cX12_shots 61 = .ok (.iload_n 2, 1) := by decide +kernel
theorem dX12_shots_62 : decode cX12_shots 62 = .ok (.aload_n 0, 1) := by decide +kernel
theorem dX12_shots_63 : decode cX12_shots 63 = .ok (.iload_n 1, 1) := by decide +kernel
theorem dX12_shots_64 : decode cX12_shots 64 = .ok (.iconst 1, 1) := by decide +kernel
theorem dX12_shots_65 : decode cX12_shots 65 = .ok (.invokevirtual 118, 3) := by decide +kernel
theorem dX12_shots_68 : decode cX12_shots 68 = .ok (.invokestatic 68, 3) := by decide +kernel
theorem dX12_shots_71 : decode cX12_shots 71 = .ok (.istore 4, 2) := by decide +kernel
theorem dX12_shots_73 : decode cX12_shots 73 = .ok (.aload_n 0, 1) := by decide +kernel
theorem dX12_shots_74 : decode cX12_shots 74 = .ok (.iload_n 1, 1) := by decide +kernel
theorem dX12_shots_75 : decode cX12_shots 75 = .ok (.iconst 2, 1) := by decide +kernel
theorem dX12_shots_76 : decode cX12_shots 76 = .ok (.invokevirtual 118, 3) := by decide +kernel
theorem dX12_shots_79 : decode cX12_shots 79 = .ok (.aload_n 0, 1) := by decide +kernel
theorem dX12_shots_80 : decode cX12_shots 80 = .ok (.getfield 9, 3) := by decide +kernel
theorem dX12_shots_83 : decode cX12_shots 83 = .ok (.bipush 109, 2) := by decide +kernel
theorem dX12_shots_85 : decode cX12_shots 85 = .ok (.iload 4, 2) := by decide +kernel
theorem dX12_shots_87 : decode cX12_shots 87 = .ok (.iadd, 1) := by decide +kernel
theorem dX12_shots_88 : decode cX12_shots 88 = .ok (.iaload, 1) := by decide +kernel
theorem dX12_shots_89 : decode cX12_shots 89 = .ok (.isub, 1) := by decide +kernel
theorem dX12_shots_90 : decode cX12_shots 90 = .ok (.istore 5, 2) := by decide +kernel
theorem dX12_shots_92 : decode cX12_shots 92 = .ok (.iload 5, 2) := by decide +kernel
theorem dX12_shots_94 : decode cX12_shots 94 = .ok (.ifCond .gt 5, 3) := by decide +kernel
theorem dX12_shots_97 : decode cX12_shots 97 = .ok (.iconst 0, 1) := by decide +kernel
theorem dX12_shots_98 : decode cX12_shots 98 = .ok (.ireturn, 1) := by decide +kernel
theorem dX12_shots_99 : decode cX12_shots 99 = .ok (.iload 5, 2) := by decide +kernel
theorem dX12_shots_101 : decode cX12_shots 101 = .ok (.aload_n 0, 1) := by decide +kernel
theorem dX12_shots_102 : decode cX12_shots 102 = .ok (.getfield 9, 3) := by decide +kernel
theorem dX12_shots_105 : decode cX12_shots 105 = .ok (.bipush 22, 2) := by decide +kernel
theorem dX12_shots_107 : decode cX12_shots 107 = .ok (.iload_n 2, 1) := by decide +kernel
theorem dX12_shots_108 : decode cX12_shots 108 = .ok (.iadd, 1) := by decide +kernel
theorem dX12_shots_109 : decode cX12_shots 109 = .ok (.iaload, 1) := by decide +kernel
theorem dX12_shots_110 : decode cX12_shots 110 = .ok (.imul, 1) := by decide +kernel
theorem dX12_shots_111 : decode cX12_shots 111 = .ok (.aload_n 0, 1) := by decide +kernel
theorem dX12_shots_112 : decode cX12_shots 112 = .ok (.getfield 9, 3) := by decide +kernel
theorem dX12_shots_115 : decode cX12_shots 115 = .ok (.sipush 157, 3) := by decide +kernel
theorem dX12_shots_118 : decode cX12_shots 118 = .ok (.iload 4, 2) := by decide +kernel
theorem dX12_shots_120 : decode cX12_shots 120 = .ok (.iadd, 1) := by decide +kernel
theorem dX12_shots_121 : decode cX12_shots 121 = .ok (.iaload, 1) := by decide +kernel
theorem dX12_shots_122 : decode cX12_shots 122 = .ok (.isub, 1) := by decide +kernel
theorem dX12_shots_123 : decode cX12_shots 123 = .ok (.istore 6, 2) := by decide +kernel
theorem dX12_shots_125 : decode cX12_shots 125 = .ok (.aload_n 0, 1) := by decide +kernel
theorem dX12_shots_126 : decode cX12_shots 126 = .ok (.iload_n 3, 1) := by decide +kernel
theorem dX12_shots_127 : decode cX12_shots 127 = .ok (.iload_n 2, 1) := by decide +kernel
theorem dX12_shots_128 : decode cX12_shots 128 = .ok (.invokevirtual 210, 3) := by decide +kernel
theorem dX12_shots_131 : decode cX12_shots 131 = .ok (.istore 7, 2) := by decide +kernel
theorem dX12_shots_133 : decode cX12_shots 133 = .ok (.iload 6, 2) := by decide +kernel
theorem dX12_shots_135 : decode cX12_shots 135 = .ok (.iload 7, 2) := by decide +kernel
theorem dX12_shots_137 : decode cX12_shots 137 = .ok (.iadd, 1) := by decide +kernel
theorem dX12_shots_138 : decode cX12_shots 138 = .ok (.iconst 1, 1) := by decide +kernel
theorem dX12_shots_139 : decode cX12_shots 139 = .ok (.isub, 1) := by decide +kernel
theorem dX12_shots_140 : decode cX12_shots 140 = .ok (.iload 7, 2) := by decide +kernel
theorem dX12_shots_142 : decode cX12_shots 142 = .ok (.idiv, 1) := by decide +kernel
theorem dX12_shots_143 : decode cX12_shots 143 = .ok (.ireturn, 1) := by decide +kernel
theorem dX12_letter_0 : decode cX12_letter 0 = .ok (.aload_n 0, 1) := by decide +kernel
theorem dX12_letter_1 : decode cX12_letter 1 = .ok (.iconst 0, 1) := by decide +kernel
theorem dX12_letter_2 : decode cX12_letter 2 = .ok (.putfield 45, 3) := by decide +kernel
theorem dX12_letter_5 : decode cX12_letter 5 = .ok (.aload_n 0, 1) := by decide +kernel
theorem dX12_letter_6 : decode cX12_letter 6 = .ok (.iload_n 1, 1) := by decide +kernel
theorem dX12_letter_7 : decode cX12_letter 7 = .ok (.invokevirtual 121, 3) := by decide +kernel
theorem dX12_letter_10 : decode cX12_letter 10 = .ok (.ifCond .ne 10, 3) := by decide +kernel
theorem dX12_letter_13 : decode cX12_letter 13 = .ok (.aload_n 0, 1) := by decide +kernel
theorem dX12_letter_14 : decode cX12_letter 14 = .ok (.iconst 1, 1) := by decide +kernel
theorem dX12_letter_15 : decode cX12_letter 15 = .ok (.invokevirtual 54, 3) := by decide +kernel
theorem dX12_letter_18 : decode cX12_letter 18 = .ok (.i2c, 1) := by decide +kernel
theorem dX12_letter_19 : decode cX12_letter 19 = .ok (.ireturn, 1) := by decide +kernel
theorem dX12_letter_20 : decode cX12_letter 20 = .ok (.aload_n 0, 1) := by decide +kernel
theorem dX12_letter_21 : decode cX12_letter 21 = .ok (.iload_n 1, 1) := by decide +kernel
theorem dX12_letter_22 : decode cX12_letter 22 = .ok (.iconst 4, 1) := by decide +kernel
theorem dX12_letter_23 : decode cX12_letter 23 = .ok (.invokevirtual 118, 3) := by decide +kernel
theorem dX12_letter_26 : decode cX12_letter 26 = .ok (.lookupswitch 46 #[(0, 26), (1, 43)], 26) := by decide +kernel
theorem dX12_letter_52 : decode cX12_letter 52 = .ok (.aload_n 0, 1) := by decide +kernel
theorem dX12_letter_53 : decode cX12_letter 53 = .ok (.iload_n 1, 1) := by decide +kernel
theorem dX12_letter_54 : decode cX12_letter 54 = .ok (.iconst 5, 1) := by decide +kernel
theorem dX12_letter_55 : decode cX12_letter 55 = .ok (.invokevirtual 118, 3) := by decide +kernel
theorem dX12_letter_58 : decode cX12_letter 58 = .ok (.ifCond .le 8, 3) := by decide +kernel
theorem dX12_letter_61 : decode cX12_letter 61 = .ok (.bipush 108, 2) := by decide +kernel
theorem dX12_letter_63 : decode cX12_letter 63 = .ok (.goto 5, 3) := by decide +kernel
theorem dX12_letter_66 : decode cX12_letter 66 = .ok (.bipush 111, 2) := by decide +kernel
theorem dX12_letter_68 : decode cX12_letter 68 = .ok (.ireturn, 1) := by decide +kernel
theorem dX12_letter_69 : decode cX12_letter 69 = .ok (.bipush 100, 2) := by decide +kernel
theorem dX12_letter_71 : decode cX12_letter 71 = .ok (.ireturn, 1) := by decide +kernel
theorem dX12_letter_72 : decode cX12_letter 72 = .ok (.bipush 99, 2) := by decide +kernel
theorem dX12_letter_74 : decode cX12_letter 74 = .ok (.ireturn, 1) := by decide +kernel
theorem dX12_due_0 : decode cX12_due 0 = .ok (.aload_n 0, 1) := by decide +kernel
theorem dX12_due_1 : decode cX12_due 1 = .ok (.iconst 0, 1) := by decide +kernel
theorem dX12_due_2 : decode cX12_due 2 = .ok (.putfield 45, 3) := by decide +kernel
theorem dX12_due_5 : decode cX12_due 5 = .ok (.iload_n 1, 1) := by decide +kernel
theorem dX12_due_6 : decode cX12_due 6 = .ok (.ifCond .ge 9, 3) := by decide +kernel
theorem dX12_due_9 : decode cX12_due 9 = .ok (.aload_n 0, 1) := by decide +kernel
theorem dX12_due_10 : decode cX12_due 10 = .ok (.iconst 1, 1) := by decide +kernel
theorem dX12_due_11 : decode cX12_due 11 = .ok (.invokevirtual 54, 3) := by decide +kernel
theorem dX12_due_14 : decode cX12_due 14 = .ok (.ireturn, 1) := by decide +kernel
theorem dX12_due_15 : decode cX12_due 15 = .ok (.iconst 0, 1) := by decide +kernel
theorem dX12_due_16 : decode cX12_due 16 = .ok (.istore_n 2, 1) := by decide +kernel
theorem dX12_due_17 : decode cX12_due 17 = .ok (.iconst 0, 1) := by decide +kernel
theorem dX12_due_18 : decode cX12_due 18 = .ok (.istore_n 3, 1) := by decide +kernel
theorem dX12_due_19 : decode cX12_due 19 = .ok (.iload_n 3, 1) := by decide +kernel
theorem dX12_due_20 : decode cX12_due 20 = .ok (.aload_n 0, 1) := by decide +kernel
theorem dX12_due_21 : decode cX12_due 21 = .ok (.getfield 9, 3) := by decide +kernel
theorem dX12_due_24 : decode cX12_due 24 = .ok (.iconst 3, 1) := by decide +kernel
theorem dX12_due_25 : decode cX12_due 25 = .ok (.iaload, 1) := by decide +kernel
theorem dX12_due_26 : decode cX12_due 26 = .ok (.if_icmp .ge 34, 3) := by decide +kernel
theorem dX12_due_29 : decode cX12_due 29 = .ok (.aload_n 0, 1) := by decide +kernel
theorem dX12_due_30 : decode cX12_due 30 = .ok (.iload_n 3, 1) := by decide +kernel
theorem dX12_due_31 : decode cX12_due 31 = .ok (.iconst 4, 1) := by decide +kernel
theorem dX12_due_32 : decode cX12_due 32 = .ok (.invokevirtual 118, 3) := by decide +kernel
theorem dX12_due_35 : decode cX12_due 35 = .ok (.ifCond .ne 19, 3) := by decide +kernel
theorem dX12_due_38 : decode cX12_due 38 = .ok (.aload_n 0, 1) := by decide +kernel
theorem dX12_due_39 : decode cX12_due 39 = .ok (.iload_n 3, 1) := by decide +kernel
theorem dX12_due_40 : decode cX12_due 40 = .ok (.iconst 3, 1) := by decide +kernel
theorem dX12_due_41 : decode cX12_due 41 = .ok (.invokevirtual 118, 3) := by decide +kernel
theorem dX12_due_44 : decode cX12_due 44 = .ok (.iload_n 1, 1) := by decide +kernel
theorem dX12_due_45 : decode cX12_due 45 = .ok (.if_icmp .gt 9, 3) := by decide +kernel
theorem dX12_due_48 : decode cX12_due 48 = .ok (.iload_n 2, 1) := by decide +kernel
theorem dX12_due_49 : decode cX12_due 49 = .ok (.iconst 1, 1) := by decide +kernel
theorem dX12_due_50 : decode cX12_due 50 = .ok (.iload_n 3, 1) := by decide +kernel
theorem dX12_due_51 : decode cX12_due 51 = .ok (.ishl, 1) := by decide +kernel
theorem dX12_due_52 : decode cX12_due 52 = .ok (.ior, 1) := by decide +kernel
theorem dX12_due_53 : decode cX12_due 53 = .ok (.istore_n 2, 1) := by decide +kernel
theorem dX12_due_54 : decode cX12_due 54 = .ok (.iinc 3 1, 3) := by decide +kernel
theorem dX12_due_57 : decode cX12_due 57 = .ok (.goto (-38), 3) := by decide +kernel
theorem dX12_due_60 : decode cX12_due 60 = .ok (.iload_n 2, 1) := by decide +kernel
theorem dX12_due_61 : decode cX12_due 61 = .ok (.ireturn, 1) := by decide +kernel
theorem dX12_reason_0 : decode cX12_reason 0 = .ok (.aload_n 0, 1) := by decide +kernel
theorem dX12_reason_1 : decode cX12_reason 1 = .ok (.iconst 0, 1) := by decide +kernel
theorem dX12_reason_2 : decode cX12_reason 2 = .ok (.putfield 45, 3) := by decide +kernel
theorem dX12_reason_5 : decode cX12_reason 5 = .ok (.iload_n 1, 1) := by decide +kernel
theorem dX12_reason_6 : decode cX12_reason 6 = .ok (.ifCond .ge 9, 3) := by decide +kernel
theorem dX12_reason_9 : decode cX12_reason 9 = .ok (.aload_n 0, 1) := by decide +kernel
theorem dX12_reason_10 : decode cX12_reason 10 = .ok (.iconst 1, 1) := by decide +kernel
theorem dX12_reason_11 : decode cX12_reason 11 = .ok (.invokevirtual 54, 3) := by decide +kernel
theorem dX12_reason_14 : decode cX12_reason 14 = .ok (.ireturn, 1) := by decide +kernel
theorem dX12_reason_15 : decode cX12_reason 15 = .ok (.iload_n 1, 1) := by decide +kernel
theorem dX12_reason_16 : decode cX12_reason 16 = .ok (.aload_n 0, 1) := by decide +kernel
theorem dX12_reason_17 : decode cX12_reason 17 = .ok (.getfield 51, 3) := by decide +kernel
theorem dX12_reason_20 : decode cX12_reason 20 = .ok (.if_icmp .lt 9, 3) := by decide +kernel
theorem dX12_reason_23 : decode cX12_reason 23 = .ok (.aload_n 0, 1) := by decide +kernel
theorem dX12_reason_24 : decode cX12_reason 24 = .ok (.iconst 2, 1) := by decide +kernel
theorem dX12_reason_25 : decode cX12_reason 25 = .ok (.invokevirtual 54, 3) := by decide +kernel
theorem dX12_reason_28 : decode cX12_reason 28 = .ok (.ireturn, 1) := by decide +kernel
theorem dX12_reason_29 : decode cX12_reason 29 = .ok (.iload_n 2, 1) := by decide +kernel
theorem dX12_reason_30 : decode cX12_reason 30 = .ok (.ifCond .eq 12, 3) := by decide +kernel
theorem dX12_reason_33 : decode cX12_reason 33 = .ok (.aload_n 0, 1) := by decide +kernel
theorem dX12_reason_34 : decode cX12_reason 34 = .ok (.getfield 33, 3) := by decide +kernel
theorem dX12_reason_37 : decode cX12_reason 37 = .ok (.iload_n 1, 1) := by decide +kernel
theorem dX12_reason_38 : decode cX12_reason 38 = .ok (.iaload, 1) := by decide +kernel
theorem dX12_reason_39 : decode cX12_reason 39 = .ok (.goto 9, 3) := by decide +kernel
theorem dX12_reason_42 : decode cX12_reason 42 = .ok (.aload_n 0, 1) := by decide +kernel
theorem dX12_reason_43 : decode cX12_reason 43 = .ok (.getfield 30, 3) := by decide +kernel
theorem dX12_reason_46 : decode cX12_reason 46 = .ok (.iload_n 1, 1) := by decide +kernel
theorem dX12_reason_47 : decode cX12_reason 47 = .ok (.iaload, 1) := by decide +kernel
theorem dX12_reason_48 : decode cX12_reason 48 = .ok (.ireturn, 1) := by decide +kernel
theorem dX12_scrap_0 : decode cX12_scrap 0 = .ok (.aload_n 0, 1) := by decide +kernel
theorem dX12_scrap_1 : decode cX12_scrap 1 = .ok (.iconst 0, 1) := by decide +kernel
theorem dX12_scrap_2 : decode cX12_scrap 2 = .ok (.putfield 45, 3) := by decide +kernel
theorem dX12_scrap_5 : decode cX12_scrap 5 = .ok (.iconst 0, 1) := by decide +kernel
theorem dX12_scrap_6 : decode cX12_scrap 6 = .ok (.istore_n 1, 1) := by decide +kernel
theorem dX12_scrap_7 : decode cX12_scrap 7 = .ok (.iconst 0, 1) := by decide +kernel
theorem dX12_scrap_8 : decode cX12_scrap 8 = .ok (.istore_n 2, 1) := by decide +kernel
theorem dX12_scrap_9 : decode cX12_scrap 9 = .ok (.iconst 0, 1) := by decide +kernel
theorem dX12_scrap_10 : decode cX12_scrap 10 = .ok (.istore_n 3, 1) := by decide +kernel
theorem dX12_scrap_11 : decode cX12_scrap 11 = .ok (.iload_n 3, 1) := by decide +kernel
theorem dX12_scrap_12 : decode cX12_scrap 12 = .ok (.bipush 8, 2) := by decide +kernel
theorem dX12_scrap_14 : decode cX12_scrap 14 = .ok (.if_icmp .ge 33, 3) := by decide +kernel
theorem dX12_scrap_17 : decode cX12_scrap 17 = .ok (.iload_n 1, 1) := by decide +kernel
theorem dX12_scrap_18 : decode cX12_scrap 18 = .ok (.aload_n 0, 1) := by decide +kernel
theorem dX12_scrap_19 : decode cX12_scrap 19 = .ok (.getfield 9, 3) := by decide +kernel
theorem dX12_scrap_22 : decode cX12_scrap 22 = .ok (.bipush 30, 2) := by decide +kernel
theorem dX12_scrap_24 : decode cX12_scrap 24 = .ok (.iload_n 3, 1) := by decide +kernel
theorem dX12_scrap_25 : decode cX12_scrap 25 = .ok (.iadd, 1) := by decide +kernel
theorem dX12_scrap_26 : decode cX12_scrap 26 = .ok (.iaload, 1) := by decide +kernel
theorem dX12_scrap_27 : decode cX12_scrap 27 = .ok (.iadd, 1) := by decide +kernel
theorem dX12_scrap_28 : decode cX12_scrap 28 = .ok (.istore_n 1, 1) := by decide +kernel
theorem dX12_scrap_29 : decode cX12_scrap 29 = .ok (.iload_n 2, 1) := by decide +kernel
theorem dX12_scrap_30 : decode cX12_scrap 30 = .ok (.aload_n 0, 1) := by decide +kernel
theorem dX12_scrap_31 : decode cX12_scrap 31 = .ok (.getfield 9, 3) := by decide +kernel
theorem dX12_scrap_34 : decode cX12_scrap 34 = .ok (.bipush 38, 2) := by decide +kernel
theorem dX12_scrap_36 : decode cX12_scrap 36 = .ok (.iload_n 3, 1) := by decide +kernel
theorem dX12_scrap_37 : decode cX12_scrap 37 = .ok (.iadd, 1) := by decide +kernel
theorem dX12_scrap_38 : decode cX12_scrap 38 = .ok (.iaload, 1) := by decide +kernel
theorem dX12_scrap_39 : decode cX12_scrap 39 = .ok (.iadd, 1) := by decide +kernel
theorem dX12_scrap_40 : decode cX12_scrap 40 = .ok (.istore_n 2, 1) := by decide +kernel
theorem dX12_scrap_41 : decode cX12_scrap 41 = .ok (.iinc 3 1, 3) := by decide +kernel
theorem dX12_scrap_44 : decode cX12_scrap 44 = .ok (.goto (-33), 3) := by decide +kernel
theorem dX12_scrap_47 : decode cX12_scrap 47 = .ok (.iload_n 1, 1) := by decide +kernel
theorem dX12_scrap_48 : decode cX12_scrap 48 = .ok (.ifCond .ne 12, 3) := by decide +kernel
theorem dX12_scrap_51 : decode cX12_scrap 51 = .ok (.aload_n 0, 1) := by decide +kernel
theorem dX12_scrap_52 : decode cX12_scrap 52 = .ok (.iconst 1, 1) := by decide +kernel
theorem dX12_scrap_53 : decode cX12_scrap 53 = .ok (.invokevirtual 54, 3) := by decide +kernel
theorem dX12_scrap_56 : decode cX12_scrap 56 = .ok (.i2f, 1) := by decide +kernel
theorem dX12_scrap_57 : decode cX12_scrap 57 = .ok (.goto 8, 3) := by decide +kernel
theorem dX12_scrap_60 : decode cX12_scrap 60 = .ok (.iload_n 2, 1) := by decide +kernel
theorem dX12_scrap_61 : decode cX12_scrap 61 = .ok (.i2f, 1) := by decide +kernel
theorem dX12_scrap_62 : decode cX12_scrap 62 = .ok (.iload_n 1, 1) := by decide +kernel
theorem dX12_scrap_63 : decode cX12_scrap 63 = .ok (.i2f, 1) := by decide +kernel
theorem dX12_scrap_64 : decode cX12_scrap 64 = .ok (.fdiv, 1) := by decide +kernel
theorem dX12_scrap_65 : decode cX12_scrap 65 = .ok (.freturn, 1) := by decide +kernel
theorem dX12_lateness_0 : decode cX12_lateness 0 = .ok (.aload_n 0, 1) := by decide +kernel
theorem dX12_lateness_1 : decode cX12_lateness 1 = .ok (.iconst 0, 1) := by decide +kernel
theorem dX12_lateness_2 : decode cX12_lateness 2 = .ok (.putfield 45, 3) := by decide +kernel
theorem dX12_lateness_5 : decode cX12_lateness 5 = .ok (.iconst 0, 1) := by decide +kernel
theorem dX12_lateness_6 : decode cX12_lateness 6 = .ok (.istore_n 1, 1) := by decide +kernel
theorem dX12_lateness_7 : decode cX12_lateness 7 = .ok (.iconst 0, 1) := by decide +kernel
theorem dX12_lateness_8 : decode cX12_lateness 8 = .ok (.istore_n 2, 1) := by decide +kernel
theorem dX12_lateness_9 : decode cX12_lateness 9 = .ok (.iconst 0, 1) := by decide +kernel
theorem dX12_lateness_10 : decode cX12_lateness 10 = .ok (.istore_n 3, 1) := by decide +kernel
theorem dX12_lateness_11 : decode cX12_lateness 11 = .ok (.iload_n 3, 1) := by decide +kernel
theorem dX12_lateness_12 : decode cX12_lateness 12 = .ok (.aload_n 0, 1) := by decide +kernel
theorem dX12_lateness_13 : decode cX12_lateness 13 = .ok (.getfield 9, 3) := by decide +kernel
theorem dX12_lateness_16 : decode cX12_lateness 16 = .ok (.iconst 3, 1) := by decide +kernel
theorem dX12_lateness_17 : decode cX12_lateness 17 = .ok (.iaload, 1) := by decide +kernel
theorem dX12_lateness_18 : decode cX12_lateness 18 = .ok (.if_icmp .ge 34, 3) := by decide +kernel
theorem dX12_lateness_21 : decode cX12_lateness 21 = .ok (.aload_n 0, 1) := by decide +kernel
theorem dX12_lateness_22 : decode cX12_lateness 22 = .ok (.iload_n 3, 1) := by decide +kernel
theorem dX12_lateness_23 : decode cX12_lateness 23 = .ok (.iconst 4, 1) := by decide +kernel
theorem dX12_lateness_24 : decode cX12_lateness 24 = .ok (.invokevirtual 118, 3) := by decide +kernel
theorem dX12_lateness_27 : decode cX12_lateness 27 = .ok (.iconst 1, 1) := by decide +kernel
theorem dX12_lateness_28 : decode cX12_lateness 28 = .ok (.if_icmp .eq 6, 3) := by decide +kernel
theorem dX12_lateness_31 : decode cX12_lateness 31 = .ok (.goto 15, 3) := by decide +kernel
theorem dX12_lateness_34 : decode cX12_lateness 34 = .ok (.iload_n 1, 1) := by decide +kernel
theorem dX12_lateness_35 : decode cX12_lateness 35 = .ok (.aload_n 0, 1) := by decide +kernel
theorem dX12_lateness_36 : decode cX12_lateness 36 = .ok (.iload_n 3, 1) := by decide +kernel
theorem dX12_lateness_37 : decode cX12_lateness 37 = .ok (.iconst 5, 1) := by decide +kernel
theorem dX12_lateness_38 : decode cX12_lateness 38 = .ok (.invokevirtual 118, 3) := by decide +kernel
theorem dX12_lateness_41 : decode cX12_lateness 41 = .ok (.iadd, 1) := by decide +kernel
theorem dX12_lateness_42 : decode cX12_lateness 42 = .ok (.istore_n 1, 1) := by decide +kernel
theorem dX12_lateness_43 : decode cX12_lateness 43 = .ok (.iinc 2 1, 3) := by decide +kernel
theorem dX12_lateness_46 : decode cX12_lateness 46 = .ok (.iinc 3 1, 3) := by decide +kernel
theorem dX12_lateness_49 : decode cX12_lateness 49 = .ok (.goto (-38), 3) := by decide +kernel
theorem dX12_lateness_52 : decode cX12_lateness 52 = .ok (.iload_n 2, 1) := by decide +kernel
theorem dX12_lateness_53 : decode cX12_lateness 53 = .ok (.ifCond .ne 12, 3) := by decide +kernel
theorem dX12_lateness_56 : decode cX12_lateness 56 = .ok (.aload_n 0, 1) := by decide +kernel
theorem dX12_lateness_57 : decode cX12_lateness 57 = .ok (.iconst 1, 1) := by decide +kernel
theorem dX12_lateness_58 : decode cX12_lateness 58 = .ok (.invokevirtual 54, 3) := by decide +kernel
theorem dX12_lateness_61 : decode cX12_lateness 61 = .ok (.i2d, 1) := by decide +kernel
theorem dX12_lateness_62 : decode cX12_lateness 62 = .ok (.goto 8, 3) := by decide +kernel
theorem dX12_lateness_65 : decode cX12_lateness 65 = .ok (.iload_n 1, 1) := by decide +kernel
theorem dX12_lateness_66 : decode cX12_lateness 66 = .ok (.i2d, 1) := by decide +kernel
theorem dX12_lateness_67 : decode cX12_lateness 67 = .ok (.iload_n 2, 1) := by decide +kernel
theorem dX12_lateness_68 : decode cX12_lateness 68 = .ok (.i2d, 1) := by decide +kernel
theorem dX12_lateness_69 : decode cX12_lateness 69 = .ok (.ddiv, 1) := by decide +kernel
theorem dX12_lateness_70 : decode cX12_lateness 70 = .ok (.dreturn, 1) := by decide +kernel
theorem dX12_account_0 : decode cX12_account 0 = .ok (.aload_n 0, 1) := by decide +kernel
theorem dX12_account_1 : decode cX12_account 1 = .ok (.iconst 0, 1) := by decide +kernel
theorem dX12_account_2 : decode cX12_account 2 = .ok (.putfield 45, 3) := by decide +kernel
theorem dX12_account_5 : decode cX12_account 5 = .ok (.iconst 0, 1) := by decide +kernel
theorem dX12_account_6 : decode cX12_account 6 = .ok (.istore_n 2, 1) := by decide +kernel
theorem dX12_account_7 : decode cX12_account 7 = .ok (.iload_n 1, 1) := by decide +kernel
theorem dX12_account_8 : decode cX12_account 8 = .ok (.tableswitch 233 0 18 #[92, 99, 106, 113, 120, 125, 133, 141, 148, 155, 186, 194, 202, 210, 215, 220, 220, 220, 220], 92) := by decide +kernel
theorem dX12_account_100 : decode cX12_account 100 = .ok (.aload_n 0, 1) := by decide +kernel
theorem dX12_account_101 : decode cX12_account 101 = .ok (.getfield 9, 3) := by decide +kernel
theorem dX12_account_104 : decode cX12_account 104 = .ok (.iconst 0, 1) := by decide +kernel
theorem dX12_account_105 : decode cX12_account 105 = .ok (.iaload, 1) := by decide +kernel
theorem dX12_account_106 : decode cX12_account 106 = .ok (.ireturn, 1) := by decide +kernel
theorem dX12_account_107 : decode cX12_account 107 = .ok (.aload_n 0, 1) := by decide +kernel
theorem dX12_account_108 : decode cX12_account 108 = .ok (.getfield 9, 3) := by decide +kernel
theorem dX12_account_111 : decode cX12_account 111 = .ok (.iconst 1, 1) := by decide +kernel
theorem dX12_account_112 : decode cX12_account 112 = .ok (.iaload, 1) := by decide +kernel
theorem dX12_account_113 : decode cX12_account 113 = .ok (.ireturn, 1) := by decide +kernel
theorem dX12_account_114 : decode cX12_account 114 = .ok (.aload_n 0, 1) := by decide +kernel
theorem dX12_account_115 : decode cX12_account 115 = .ok (.getfield 9, 3) := by decide +kernel
theorem dX12_account_118 : decode cX12_account 118 = .ok (.iconst 2, 1) := by decide +kernel
theorem dX12_account_119 : decode cX12_account 119 = .ok (.iaload, 1) := by decide +kernel
theorem dX12_account_120 : decode cX12_account 120 = .ok (.ireturn, 1) := by decide +kernel
theorem dX12_account_121 : decode cX12_account 121 = .ok (.aload_n 0, 1) := by decide +kernel
theorem dX12_account_122 : decode cX12_account 122 = .ok (.getfield 9, 3) := by decide +kernel
theorem dX12_account_125 : decode cX12_account 125 = .ok (.iconst 3, 1) := by decide +kernel
theorem dX12_account_126 : decode cX12_account 126 = .ok (.iaload, 1) := by decide +kernel
theorem dX12_account_127 : decode cX12_account 127 = .ok (.ireturn, 1) := by decide +kernel
theorem dX12_account_128 : decode cX12_account 128 = .ok (.aload_n 0, 1) := by decide +kernel
theorem dX12_account_129 : decode cX12_account 129 = .ok (.invokevirtual 124, 3) := by decide +kernel
theorem dX12_account_132 : decode cX12_account 132 = .ok (.ireturn, 1) := by decide +kernel
theorem dX12_account_133 : decode cX12_account 133 = .ok (.aload_n 0, 1) := by decide +kernel
theorem dX12_account_134 : decode cX12_account 134 = .ok (.getfield 9, 3) := by decide +kernel
theorem dX12_account_137 : decode cX12_account 137 = .ok (.bipush 6, 2) := by decide +kernel
theorem dX12_account_139 : decode cX12_account 139 = .ok (.iaload, 1) := by decide +kernel
theorem dX12_account_140 : decode cX12_account 140 = .ok (.ireturn, 1) := by decide +kernel
theorem dX12_account_141 : decode cX12_account 141 = .ok (.aload_n 0, 1) := by decide +kernel
theorem dX12_account_142 : decode cX12_account 142 = .ok (.getfield 9, 3) := by decide +kernel
theorem dX12_account_145 : decode cX12_account 145 = .ok (.bipush 7, 2) := by decide +kernel
theorem dX12_account_147 : decode cX12_account 147 = .ok (.iaload, 1) := by decide +kernel
theorem dX12_account_148 : decode cX12_account 148 = .ok (.ireturn, 1) := by decide +kernel
theorem dX12_account_149 : decode cX12_account 149 = .ok (.aload_n 0, 1) := by decide +kernel
theorem dX12_account_150 : decode cX12_account 150 = .ok (.getfield 9, 3) := by decide +kernel
theorem dX12_account_153 : decode cX12_account 153 = .ok (.iconst 5, 1) := by decide +kernel
theorem dX12_account_154 : decode cX12_account 154 = .ok (.iaload, 1) := by decide +kernel
theorem dX12_account_155 : decode cX12_account 155 = .ok (.ireturn, 1) := by decide +kernel
theorem dX12_account_156 : decode cX12_account 156 = .ok (.aload_n 0, 1) := by decide +kernel
theorem dX12_account_157 : decode cX12_account 157 = .ok (.getfield 9, 3) := by decide +kernel
theorem dX12_account_160 : decode cX12_account 160 = .ok (.iconst 4, 1) := by decide +kernel
theorem dX12_account_161 : decode cX12_account 161 = .ok (.iaload, 1) := by decide +kernel
theorem dX12_account_162 : decode cX12_account 162 = .ok (.ireturn, 1) := by decide +kernel
theorem dX12_account_163 : decode cX12_account 163 = .ok (.iconst 0, 1) := by decide +kernel
theorem dX12_account_164 : decode cX12_account 164 = .ok (.istore_n 3, 1) := by decide +kernel
theorem dX12_account_165 : decode cX12_account 165 = .ok (.iload_n 3, 1) := by decide +kernel
theorem dX12_account_166 : decode cX12_account 166 = .ok (.iconst 3, 1) := by decide +kernel
theorem dX12_account_167 : decode cX12_account 167 = .ok (.if_icmp .ge 25, 3) := by decide +kernel
theorem dX12_account_170 : decode cX12_account 170 = .ok (.iload_n 2, 1) := by decide +kernel
theorem dX12_account_171 : decode cX12_account 171 = .ok (.aload_n 0, 1) := by decide +kernel
theorem dX12_account_172 : decode cX12_account 172 = .ok (.getfield 9, 3) := by decide +kernel
theorem dX12_account_175 : decode cX12_account 175 = .ok (.bipush 100, 2) := by decide +kernel
theorem dX12_account_177 : decode cX12_account 177 = .ok (.iconst 3, 1) := by decide +kernel
theorem dX12_account_178 : decode cX12_account 178 = .ok (.iload_n 3, 1) := by decide +kernel
theorem dX12_account_179 : decode cX12_account 179 = .ok (.imul, 1) := by decide +kernel
theorem dX12_account_180 : decode cX12_account 180 = .ok (.iadd, 1) := by decide +kernel
theorem dX12_account_181 : decode cX12_account 181 = .ok (.iconst 1, 1) := by decide +kernel
theorem dX12_account_182 : decode cX12_account 182 = .ok (.iadd, 1) := by decide +kernel
theorem dX12_account_183 : decode cX12_account 183 = .ok (.iaload, 1) := by decide +kernel
theorem dX12_account_184 : decode cX12_account 184 = .ok (.iadd, 1) := by decide +kernel
theorem dX12_account_185 : decode cX12_account 185 = .ok (.istore_n 2, 1) := by decide +kernel
theorem dX12_account_186 : decode cX12_account 186 = .ok (.iinc 3 1, 3) := by decide +kernel
theorem dX12_account_189 : decode cX12_account 189 = .ok (.goto (-24), 3) := by decide +kernel
theorem dX12_account_192 : decode cX12_account 192 = .ok (.iload_n 2, 1) := by decide +kernel
theorem dX12_account_193 : decode cX12_account 193 = .ok (.ireturn, 1) := by decide +kernel
theorem dX12_account_194 : decode cX12_account 194 = .ok (.aload_n 0, 1) := by decide +kernel
theorem dX12_account_195 : decode cX12_account 195 = .ok (.getfield 9, 3) := by decide +kernel
theorem dX12_account_198 : decode cX12_account 198 = .ok (.bipush 9, 2) := by decide +kernel
theorem dX12_account_200 : decode cX12_account 200 = .ok (.iaload, 1) := by decide +kernel
theorem dX12_account_201 : decode cX12_account 201 = .ok (.ireturn, 1) := by decide +kernel
theorem dX12_account_202 : decode cX12_account 202 = .ok (.aload_n 0, 1) := by decide +kernel
theorem dX12_account_203 : decode cX12_account 203 = .ok (.getfield 9, 3) := by decide +kernel
theorem dX12_account_206 : decode cX12_account 206 = .ok (.bipush 10, 2) := by decide +kernel
theorem dX12_account_208 : decode cX12_account 208 = .ok (.iaload, 1) := by decide +kernel
theorem dX12_account_209 : decode cX12_account 209 = .ok (.ireturn, 1) := by decide +kernel
theorem dX12_account_210 : decode cX12_account 210 = .ok (.aload_n 0, 1) := by decide +kernel
theorem dX12_account_211 : decode cX12_account 211 = .ok (.getfield 9, 3) := by decide +kernel
theorem dX12_account_214 : decode cX12_account 214 = .ok (.bipush 11, 2) := by decide +kernel
theorem dX12_account_216 : decode cX12_account 216 = .ok (.iaload, 1) := by decide +kernel
theorem dX12_account_217 : decode cX12_account 217 = .ok (.ireturn, 1) := by decide +kernel
theorem dX12_account_218 : decode cX12_account 218 = .ok (.aload_n 0, 1) := by decide +kernel
theorem dX12_account_219 : decode cX12_account 219 = .ok (.getfield 48, 3) := by decide +kernel
theorem dX12_account_222 : decode cX12_account 222 = .ok (.ireturn, 1) := by decide +kernel
theorem dX12_account_223 : decode cX12_account 223 = .ok (.aload_n 0, 1) := by decide +kernel
theorem dX12_account_224 : decode cX12_account 224 = .ok (.getfield 128, 3) := by decide +kernel
theorem dX12_account_227 : decode cX12_account 227 = .ok (.ireturn, 1) := by decide +kernel
theorem dX12_account_228 : decode cX12_account 228 = .ok (.aload_n 0, 1) := by decide +kernel
theorem dX12_account_229 : decode cX12_account 229 = .ok (.getfield 9, 3) := by decide +kernel
theorem dX12_account_232 : decode cX12_account 232 = .ok (.bipush 12, 2) := by decide +kernel
theorem dX12_account_234 : decode cX12_account 234 = .ok (.iload_n 1, 1) := by decide +kernel
theorem dX12_account_235 : decode cX12_account 235 = .ok (.iadd, 1) := by decide +kernel
theorem dX12_account_236 : decode cX12_account 236 = .ok (.bipush 15, 2) := by decide +kernel
theorem dX12_account_238 : decode cX12_account 238 = .ok (.isub, 1) := by decide +kernel
theorem dX12_account_239 : decode cX12_account 239 = .ok (.iaload, 1) := by decide +kernel
theorem dX12_account_240 : decode cX12_account 240 = .ok (.ireturn, 1) := by decide +kernel
theorem dX12_account_241 : decode cX12_account 241 = .ok (.aload_n 0, 1) := by decide +kernel
theorem dX12_account_242 : decode cX12_account 242 = .ok (.iconst 1, 1) := by decide +kernel
theorem dX12_account_243 : decode cX12_account 243 = .ok (.invokevirtual 54, 3) := by decide +kernel
theorem dX12_account_246 : decode cX12_account 246 = .ok (.ireturn, 1) := by decide +kernel
theorem dX12_undo_0 : decode cX12_undo 0 = .ok (.aload_n 0, 1) := by decide +kernel
theorem dX12_undo_1 : decode cX12_undo 1 = .ok (.iconst 0, 1) := by decide +kernel
theorem dX12_undo_2 : decode cX12_undo 2 = .ok (.putfield 45, 3) := by decide +kernel
theorem dX12_undo_5 : decode cX12_undo 5 = .ok (.aload_n 0, 1) := by decide +kernel
theorem dX12_undo_6 : decode cX12_undo 6 = .ok (.getfield 48, 3) := by decide +kernel
theorem dX12_undo_9 : decode cX12_undo 9 = .ok (.ifCond .ne 9, 3) := by decide +kernel
theorem dX12_undo_12 : decode cX12_undo 12 = .ok (.aload_n 0, 1) := by decide +kernel
theorem dX12_undo_13 : decode cX12_undo 13 = .ok (.iconst 1, 1) := by decide +kernel
theorem dX12_undo_14 : decode cX12_undo 14 = .ok (.invokevirtual 54, 3) := by decide +kernel
theorem dX12_undo_17 : decode cX12_undo 17 = .ok (.ireturn, 1) := by decide +kernel
theorem dX12_undo_18 : decode cX12_undo 18 = .ok (.aload_n 0, 1) := by decide +kernel
theorem dX12_undo_19 : decode cX12_undo 19 = .ok (.dup, 1) := by decide +kernel
theorem dX12_undo_20 : decode cX12_undo 20 = .ok (.getfield 48, 3) := by decide +kernel
theorem dX12_undo_23 : decode cX12_undo 23 = .ok (.iconst 1, 1) := by decide +kernel
theorem dX12_undo_24 : decode cX12_undo 24 = .ok (.isub, 1) := by decide +kernel
theorem dX12_undo_25 : decode cX12_undo 25 = .ok (.putfield 48, 3) := by decide +kernel
theorem dX12_undo_28 : decode cX12_undo 28 = .ok (.iconst 0, 1) := by decide +kernel
theorem dX12_undo_29 : decode cX12_undo 29 = .ok (.istore_n 1, 1) := by decide +kernel
theorem dX12_undo_30 : decode cX12_undo 30 = .ok (.iload_n 1, 1) := by decide +kernel
theorem dX12_undo_31 : decode cX12_undo 31 = .ok (.sipush 313, 3) := by decide +kernel
theorem dX12_undo_34 : decode cX12_undo 34 = .ok (.if_icmp .ge 30, 3) := by decide +kernel
theorem dX12_undo_37 : decode cX12_undo 37 = .ok (.aload_n 0, 1) := by decide +kernel
theorem dX12_undo_38 : decode cX12_undo 38 = .ok (.getfield 9, 3) := by decide +kernel
theorem dX12_undo_41 : decode cX12_undo 41 = .ok (.iload_n 1, 1) := by decide +kernel
theorem dX12_undo_42 : decode cX12_undo 42 = .ok (.aload_n 0, 1) := by decide +kernel
theorem dX12_undo_43 : decode cX12_undo 43 = .ok (.getfield 16, 3) := by decide +kernel
theorem dX12_undo_46 : decode cX12_undo 46 = .ok (.sipush 313, 3) := by decide +kernel
theorem dX12_undo_49 : decode cX12_undo 49 = .ok (.aload_n 0, 1) := by decide +kernel
theorem dX12_undo_50 : decode cX12_undo 50 = .ok (.getfield 48, 3) := by decide +kernel
theorem dX12_undo_53 : decode cX12_undo 53 = .ok (.imul, 1) := by decide +kernel
theorem dX12_undo_54 : decode cX12_undo 54 = .ok (.iload_n 1, 1) := by decide +kernel
theorem dX12_undo_55 : decode cX12_undo 55 = .ok (.iadd, 1) := by decide +kernel
theorem dX12_undo_56 : decode cX12_undo 56 = .ok (.iaload, 1) := by decide +kernel
theorem dX12_undo_57 : decode cX12_undo 57 = .ok (.iastore, 1) := by decide +kernel
theorem dX12_undo_58 : decode cX12_undo 58 = .ok (.iinc 1 1, 3) := by decide +kernel
theorem dX12_undo_61 : decode cX12_undo 61 = .ok (.goto (-31), 3) := by decide +kernel
theorem dX12_undo_64 : decode cX12_undo 64 = .ok (.aload_n 0, 1) := by decide +kernel
theorem dX12_undo_65 : decode cX12_undo 65 = .ok (.getfield 48, 3) := by decide +kernel
theorem dX12_undo_68 : decode cX12_undo 68 = .ok (.ireturn, 1) := by decide +kernel
theorem dX12_save_0 : decode cX12_save 0 = .ok (.aload_n 0, 1) := by decide +kernel
theorem dX12_save_1 : decode cX12_save 1 = .ok (.iconst 0, 1) := by decide +kernel
theorem dX12_save_2 : decode cX12_save 2 = .ok (.putfield 45, 3) := by decide +kernel
theorem dX12_save_5 : decode cX12_save 5 = .ok (.aload_n 0, 1) := by decide +kernel
theorem dX12_save_6 : decode cX12_save 6 = .ok (.iconst 1, 1) := by decide +kernel
theorem dX12_save_7 : decode cX12_save 7 = .ok (.putfield 213, 3) := by decide +kernel
theorem dX12_save_10 : decode cX12_save 10 = .ok (.iconst 0, 1) := by decide +kernel
theorem dX12_save_11 : decode cX12_save 11 = .ok (.istore_n 1, 1) := by decide +kernel
theorem dX12_save_12 : decode cX12_save 12 = .ok (.iload_n 1, 1) := by decide +kernel
theorem dX12_save_13 : decode cX12_save 13 = .ok (.sipush 313, 3) := by decide +kernel
theorem dX12_save_16 : decode cX12_save 16 = .ok (.if_icmp .ge 21, 3) := by decide +kernel
theorem dX12_save_19 : decode cX12_save 19 = .ok (.aload_n 0, 1) := by decide +kernel
theorem dX12_save_20 : decode cX12_save 20 = .ok (.getfield 19, 3) := by decide +kernel
theorem dX12_save_23 : decode cX12_save 23 = .ok (.iload_n 1, 1) := by decide +kernel
theorem dX12_save_24 : decode cX12_save 24 = .ok (.aload_n 0, 1) := by decide +kernel
theorem dX12_save_25 : decode cX12_save 25 = .ok (.getfield 9, 3) := by decide +kernel
theorem dX12_save_28 : decode cX12_save 28 = .ok (.iload_n 1, 1) := by decide +kernel
theorem dX12_save_29 : decode cX12_save 29 = .ok (.iaload, 1) := by decide +kernel
theorem dX12_save_30 : decode cX12_save 30 = .ok (.iastore, 1) := by decide +kernel
theorem dX12_save_31 : decode cX12_save 31 = .ok (.iinc 1 1, 3) := by decide +kernel
theorem dX12_save_34 : decode cX12_save 34 = .ok (.goto (-22), 3) := by decide +kernel
theorem dX12_save_37 : decode cX12_save 37 = .ok (.aload_n 0, 1) := by decide +kernel
theorem dX12_save_38 : decode cX12_save 38 = .ok (.getfield 9, 3) := by decide +kernel
theorem dX12_save_41 : decode cX12_save 41 = .ok (.iconst 3, 1) := by decide +kernel
theorem dX12_save_42 : decode cX12_save 42 = .ok (.iaload, 1) := by decide +kernel
theorem dX12_save_43 : decode cX12_save 43 = .ok (.ireturn, 1) := by decide +kernel
theorem dX12_restore_0 : decode cX12_restore 0 = .ok (.aload_n 0, 1) := by decide +kernel
theorem dX12_restore_1 : decode cX12_restore 1 = .ok (.iconst 0, 1) := by decide +kernel
theorem dX12_restore_2 : decode cX12_restore 2 = .ok (.putfield 45, 3) := by decide +kernel
theorem dX12_restore_5 : decode cX12_restore 5 = .ok (.aload_n 0, 1) := by decide +kernel
theorem dX12_restore_6 : decode cX12_restore 6 = .ok (.getfield 213, 3) := by decide +kernel
theorem dX12_restore_9 : decode cX12_restore 9 = .ok (.ifCond .ne 9, 3) := by decide +kernel
theorem dX12_restore_12 : decode cX12_restore 12 = .ok (.aload_n 0, 1) := by decide +kernel
theorem dX12_restore_13 : decode cX12_restore 13 = .ok (.iconst 1, 1) := by decide +kernel
theorem dX12_restore_14 : decode cX12_restore 14 = .ok (.invokevirtual 54, 3) := by decide +kernel
theorem dX12_restore_17 : decode cX12_restore 17 = .ok (.ireturn, 1) := by decide +kernel
theorem dX12_restore_18 : decode cX12_restore 18 = .ok (.iconst 0, 1) := by decide +kernel
theorem dX12_restore_19 : decode cX12_restore 19 = .ok (.istore_n 1, 1) := by decide +kernel
theorem dX12_restore_20 : decode cX12_restore 20 = .ok (.iload_n 1, 1) := by decide +kernel
theorem dX12_restore_21 : decode cX12_restore 21 = .ok (.sipush 313, 3) := by decide +kernel
theorem dX12_restore_24 : decode cX12_restore 24 = .ok (.if_icmp .ge 21, 3) := by decide +kernel
theorem dX12_restore_27 : decode cX12_restore 27 = .ok (.aload_n 0, 1) := by decide +kernel
theorem dX12_restore_28 : decode cX12_restore 28 = .ok (.getfield 9, 3) := by decide +kernel
theorem dX12_restore_31 : decode cX12_restore 31 = .ok (.iload_n 1, 1) := by decide +kernel
theorem dX12_restore_32 : decode cX12_restore 32 = .ok (.aload_n 0, 1) := by decide +kernel
theorem dX12_restore_33 : decode cX12_restore 33 = .ok (.getfield 19, 3) := by decide +kernel
theorem dX12_restore_36 : decode cX12_restore 36 = .ok (.iload_n 1, 1) := by decide +kernel
theorem dX12_restore_37 : decode cX12_restore 37 = .ok (.iaload, 1) := by decide +kernel
theorem dX12_restore_38 : decode cX12_restore 38 = .ok (.iastore, 1) := by decide +kernel
theorem dX12_restore_39 : decode cX12_restore 39 = .ok (.iinc 1 1, 3) := by decide +kernel
theorem dX12_restore_42 : decode cX12_restore 42 = .ok (.goto (-22), 3) := by decide +kernel
theorem dX12_restore_45 : decode cX12_restore 45 = .ok (.aload_n 0, 1) := by decide +kernel
theorem dX12_restore_46 : decode cX12_restore 46 = .ok (.iconst 0, 1) := by decide +kernel
theorem dX12_restore_47 : decode cX12_restore 47 = .ok (.putfield 48, 3) := by decide +kernel
theorem dX12_restore_50 : decode cX12_restore 50 = .ok (.aload_n 0, 1) := by decide +kernel
theorem dX12_restore_51 : decode cX12_restore 51 = .ok (.getfield 9, 3) := by decide +kernel
theorem dX12_restore_54 : decode cX12_restore 54 = .ok (.iconst 3, 1) := by decide +kernel
theorem dX12_restore_55 : decode cX12_restore 55 = .ok (.iaload, 1) := by decide +kernel
theorem dX12_restore_56 : decode cX12_restore 56 = .ok (.ireturn, 1) := by decide +kernel
