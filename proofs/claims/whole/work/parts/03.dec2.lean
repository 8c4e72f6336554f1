-- out of the printed names: what stands at each place of the code
theorem dX11_init_0 : decode cX11_init 0 = .ok (.aload_n 0, 1) := by decide +kernel
theorem dX11_init_1 : decode cX11_init 1 = .ok (.invokespecial 1, 3) := by decide +kernel
theorem dX11_init_4 : decode cX11_init 4 = .ok (.aload_n 0, 1) := by decide +kernel
theorem dX11_init_5 : decode cX11_init 5 = .ok (.bipush 48, 2) := by decide +kernel
theorem dX11_init_7 : decode cX11_init 7 = .ok (.newarray .int, 2) := by decide +kernel
theorem dX11_init_9 : decode cX11_init 9 = .ok (.putfield 7, 3) := by decide +kernel
theorem dX11_init_12 : decode cX11_init 12 = .ok (.aload_n 0, 1) := by decide +kernel
theorem dX11_init_13 : decode cX11_init 13 = .ok (.bipush 12, 2) := by decide +kernel
theorem dX11_init_15 : decode cX11_init 15 = .ok (.newarray .int, 2) := by decide +kernel
theorem dX11_init_17 : decode cX11_init 17 = .ok (.putfield 13, 3) := by decide +kernel
theorem dX11_init_20 : decode cX11_init 20 = .ok (.aload_n 0, 1) := by decide +kernel
theorem dX11_init_21 : decode cX11_init 21 = .ok (.bipush 24, 2) := by decide +kernel
theorem dX11_init_23 : decode cX11_init 23 = .ok (.newarray .int, 2) := by decide +kernel
theorem dX11_init_25 : decode cX11_init 25 = .ok (.putfield 16, 3) := by decide +kernel
theorem dX11_init_28 : decode cX11_init 28 = .ok (.aload_n 0, 1) := by decide +kernel
theorem dX11_init_29 : decode cX11_init 29 = .ok (.bipush 8, 2) := by decide +kernel
theorem dX11_init_31 : decode cX11_init 31 = .ok (.newarray .int, 2) := by decide +kernel
theorem dX11_init_33 : decode cX11_init 33 = .ok (.putfield 19, 3) := by decide +kernel
theorem dX11_init_36 : decode cX11_init 36 = .ok (.aload_n 0, 1) := by decide +kernel
theorem dX11_init_37 : decode cX11_init 37 = .ok (.bipush 96, 2) := by decide +kernel
theorem dX11_init_39 : decode cX11_init 39 = .ok (.newarray .int, 2) := by decide +kernel
theorem dX11_init_41 : decode cX11_init 41 = .ok (.putfield 22, 3) := by decide +kernel
theorem dX11_init_44 : decode cX11_init 44 = .ok (.aload_n 0, 1) := by decide +kernel
theorem dX11_init_45 : decode cX11_init 45 = .ok (.sipush 411, 3) := by decide +kernel
theorem dX11_init_48 : decode cX11_init 48 = .ok (.newarray .int, 2) := by decide +kernel
theorem dX11_init_50 : decode cX11_init 50 = .ok (.putfield 25, 3) := by decide +kernel
theorem dX11_init_53 : decode cX11_init 53 = .ok (.aload_n 0, 1) := by decide +kernel
theorem dX11_init_54 : decode cX11_init 54 = .ok (.sipush 411, 3) := by decide +kernel
theorem dX11_init_57 : decode cX11_init 57 = .ok (.newarray .int, 2) := by decide +kernel
theorem dX11_init_59 : decode cX11_init 59 = .ok (.putfield 28, 3) := by decide +kernel
theorem dX11_init_62 : decode cX11_init 62 = .ok (.aload_n 0, 1) := by decide +kernel
theorem dX11_init_63 : decode cX11_init 63 = .ok (.sipush 3288, 3) := by decide +kernel
theorem dX11_init_66 : decode cX11_init 66 = .ok (.newarray .int, 2) := by decide +kernel
theorem dX11_init_68 : decode cX11_init 68 = .ok (.putfield 31, 3) := by decide +kernel
theorem dX11_init_71 : decode cX11_init 71 = .ok (.aload_n 0, 1) := by decide +kernel
theorem dX11_init_72 : decode cX11_init 72 = .ok (.sipush 822, 3) := by decide +kernel
theorem dX11_init_75 : decode cX11_init 75 = .ok (.newarray .int, 2) := by decide +kernel
theorem dX11_init_77 : decode cX11_init 77 = .ok (.putfield 34, 3) := by decide +kernel
theorem dX11_init_80 : decode cX11_init 80 = .ok (.aload_n 0, 1) := by decide +kernel
theorem dX11_init_81 : decode cX11_init 81 = .ok (.iconst 2, 1) := by decide +kernel
theorem dX11_init_82 : decode cX11_init 82 = .ok (.newarray .boolean, 2) := by decide +kernel
theorem dX11_init_84 : decode cX11_init 84 = .ok (.putfield 37, 3) := by decide +kernel
theorem dX11_init_87 : decode cX11_init 87 = .ok (.aload_n 0, 1) := by decide +kernel
theorem dX11_init_88 : decode cX11_init 88 = .ok (.sipush 900, 3) := by decide +kernel
theorem dX11_init_91 : decode cX11_init 91 = .ok (.newarray .int, 2) := by decide +kernel
theorem dX11_init_93 : decode cX11_init 93 = .ok (.putfield 41, 3) := by decide +kernel
theorem dX11_init_96 : decode cX11_init 96 = .ok (.aload_n 0, 1) := by decide +kernel
theorem dX11_init_97 : decode cX11_init 97 = .ok (.sipush 411, 3) := by decide +kernel
theorem dX11_init_100 : decode cX11_init 100 = .ok (.newarray .int, 2) := by decide +kernel
theorem dX11_init_102 : decode cX11_init 102 = .ok (.putfield 44, 3) := by decide +kernel
theorem dX11_init_105 : decode cX11_init 105 = .ok (.aload_n 0, 1) := by decide +kernel
theorem dX11_init_106 : decode cX11_init 106 = .ok (.bipush 48, 2) := by decide +kernel
theorem dX11_init_108 : decode cX11_init 108 = .ok (.newarray .int, 2) := by decide +kernel
theorem dX11_init_110 : decode cX11_init 110 = .ok (.putfield 47, 3) := by decide +kernel
theorem dX11_init_113 : decode cX11_init 113 = .ok (.aload_n 0, 1) := by decide +kernel
theorem dX11_init_114 : decode cX11_init 114 = .ok (.bipush 12, 2) := by decide +kernel
theorem dX11_init_116 : decode cX11_init 116 = .ok (.newarray .int, 2) := by decide +kernel
theorem dX11_init_118 : decode cX11_init 118 = .ok (.putfield 50, 3) := by decide +kernel
theorem dX11_init_121 : decode cX11_init 121 = .ok (.aload_n 0, 1) := by decide +kernel
theorem dX11_init_122 : decode cX11_init 122 = .ok (.bipush 24, 2) := by decide +kernel
theorem dX11_init_124 : decode cX11_init 124 = .ok (.newarray .int, 2) := by decide +kernel
theorem dX11_init_126 : decode cX11_init 126 = .ok (.putfield 53, 3) := by decide +kernel
theorem dX11_init_129 : decode cX11_init 129 = .ok (.aload_n 0, 1) := by decide +kernel
theorem dX11_init_130 : decode cX11_init 130 = .ok (.bipush 8, 2) := by decide +kernel
theorem dX11_init_132 : decode cX11_init 132 = .ok (.newarray .int, 2) := by decide +kernel
theorem dX11_init_134 : decode cX11_init 134 = .ok (.putfield 56, 3) := by decide +kernel
theorem dX11_init_137 : decode cX11_init 137 = .ok (.aload_n 0, 1) := by decide +kernel
theorem dX11_init_138 : decode cX11_init 138 = .ok (.bipush 96, 2) := by decide +kernel
theorem dX11_init_140 : decode cX11_init 140 = .ok (.newarray .int, 2) := by decide +kernel
theorem dX11_init_142 : decode cX11_init 142 = .ok (.putfield 59, 3) := by decide +kernel
theorem dX11_init_145 : decode cX11_init 145 = .ok (.aload_n 0, 1) := by decide +kernel
theorem dX11_init_146 : decode cX11_init 146 = .ok (.iconst (-1), 1) := by decide +kernel
theorem dX11_init_147 : decode cX11_init 147 = .ok (.putfield 62, 3) := by decide +kernel
theorem dX11_init_150 : decode cX11_init 150 = .ok (.aload_n 0, 1) := by decide +kernel
theorem dX11_init_151 : decode cX11_init 151 = .ok (.invokevirtual 66, 3) := by decide +kernel
theorem dX11_init_154 : decode cX11_init 154 = .ok (.aload_n 0, 1) := by decide +kernel
theorem dX11_init_155 : decode cX11_init 155 = .ok (.getfield 44, 3) := by decide +kernel
theorem dX11_init_158 : decode cX11_init 158 = .ok (.bipush 6, 2) := by decide +kernel
theorem dX11_init_160 : decode cX11_init 160 = .ok (.bipush 100, 2) := by decide +kernel
theorem dX11_init_162 : decode cX11_init 162 = .ok (.iastore, 1) := by decide +kernel
theorem dX11_init_163 : decode cX11_init 163 = .ok (.aload_n 0, 1) := by decide +kernel
theorem dX11_init_164 : decode cX11_init 164 = .ok (.invokevirtual 69, 3) := by decide +kernel
theorem dX11_init_167 : decode cX11_init 167 = .ok (.return_, 1) := by decide +kernel
theorem dX11_thrown_0 : decode cX11_thrown 0 = .ok (.aload_n 0, 1) := by decide +kernel
theorem dX11_thrown_1 : decode cX11_thrown 1 = .ok (.getfield 72, 3) := by decide +kernel
theorem dX11_thrown_4 : decode cX11_thrown 4 = .ok (.ireturn, 1) := by decide +kernel
theorem dX11_isIn_0 : decode cX11_isIn 0 = .ok (.lload_n 0, 1) := by decide +kernel
theorem dX11_isIn_1 : decode cX11_isIn 1 = .ok (.lload_n 2, 1) := by decide +kernel
theorem dX11_isIn_2 : decode cX11_isIn 2 = .ok (.lcmp, 1) := by decide +kernel
theorem dX11_isIn_3 : decode cX11_isIn 3 = .ok (.ifCond .lt 14, 3) := by decide +kernel
theorem dX11_isIn_6 : decode cX11_isIn 6 = .ok (.lload_n 0, 1) := by decide +kernel
theorem dX11_isIn_7 : decode cX11_isIn 7 = .ok (.lload 4, 2) := by decide +kernel
theorem dX11_isIn_9 : decode cX11_isIn 9 = .ok (.lcmp, 1) := by decide +kernel
theorem dX11_isIn_10 : decode cX11_isIn 10 = .ok (.ifCond .gt 7, 3) := by decide +kernel
theorem dX11_isIn_13 : decode cX11_isIn 13 = .ok (.iconst 1, 1) := by decide +kernel
theorem dX11_isIn_14 : decode cX11_isIn 14 = .ok (.goto 4, 3) := by decide +kernel
theorem dX11_isIn_17 : decode cX11_isIn 17 = .ok (.iconst 0, 1) := by decide +kernel
theorem dX11_isIn_18 : decode cX11_isIn 18 = .ok (.ireturn, 1) := by decide +kernel
theorem dX11_may_0 : decode cX11_may 0 = .ok (.iload_n 1, 1) := by decide +kernel
theorem dX11_may_1 : decode cX11_may 1 = .ok (.ifCond .ne 15, 3) := by decide +kernel
theorem dX11_may_4 : decode cX11_may 4 = .ok (.aload_n 0, 1) := by decide +kernel
theorem dX11_may_5 : decode cX11_may 5 = .ok (.getfield 72, 3) := by decide +kernel
theorem dX11_may_8 : decode cX11_may 8 = .ok (.ifCond .ne 8, 3) := by decide +kernel
theorem dX11_may_11 : decode cX11_may 11 = .ok (.aload_n 0, 1) := by decide +kernel
theorem dX11_may_12 : decode cX11_may 12 = .ok (.iload_n 2, 1) := by decide +kernel
theorem dX11_may_13 : decode cX11_may 13 = .ok (.putfield 72, 3) := by decide +kernel
theorem dX11_may_16 : decode cX11_may 16 = .ok (.aload_n 0, 1) := by decide +kernel
theorem dX11_may_17 : decode cX11_may 17 = .ok (.getfield 72, 3) := by decide +kernel
theorem dX11_may_20 : decode cX11_may 20 = .ok (.ifCond .ne 7, 3) := by decide +kernel
theorem dX11_may_23 : decode cX11_may 23 = .ok (.iconst 1, 1) := by decide +kernel
theorem dX11_may_24 : decode cX11_may 24 = .ok (.goto 4, 3) := by decide +kernel
theorem dX11_may_27 : decode cX11_may 27 = .ok (.iconst 0, 1) := by decide +kernel
theorem dX11_may_28 : decode cX11_may 28 = .ok (.ireturn, 1) := by decide +kernel
theorem dX11_append_0 : decode cX11_append 0 = .ok (.aload_n 0, 1) := by decide +kernel
theorem dX11_append_1 : decode cX11_append 1 = .ok (.iconst 0, 1) := by decide +kernel
theorem dX11_append_2 : decode cX11_append 2 = .ok (.putfield 72, 3) := by decide +kernel
theorem dX11_append_5 : decode cX11_append 5 = .ok (.aload_n 0, 1) := by decide +kernel
theorem dX11_append_6 : decode cX11_append 6 = .ok (.aload_n 0, 1) := by decide +kernel
theorem dX11_append_7 : decode cX11_append 7 = .ok (.getfield 75, 3) := by decide +kernel
theorem dX11_append_10 : decode cX11_append 10 = .ok (.bipush 20, 2) := by decide +kernel
theorem dX11_append_12 : decode cX11_append 12 = .ok (.iadd, 1) := by decide +kernel
theorem dX11_append_13 : decode cX11_append 13 = .ok (.sipush 900, 3) := by decide +kernel
theorem dX11_append_16 : decode cX11_append 16 = .ok (.if_icmp .gt 7, 3) := by decide +kernel
theorem dX11_append_19 : decode cX11_append 19 = .ok (.iconst 1, 1) := by decide +kernel
theorem dX11_append_20 : decode cX11_append 20 = .ok (.goto 4, 3) := by decide +kernel
theorem dX11_append_23 : decode cX11_append 23 = .ok (.iconst 0, 1) := by decide +kernel
theorem dX11_append_24 : decode cX11_append 24 = .ok (.iconst 1, 1) := by decide +kernel
theorem dX11_append_25 : decode cX11_append 25 = .ok (.invokevirtual 78, 3) := by decide +kernel
theorem dX11_append_28 : decode cX11_append 28 = .ok (.ifCond .ne 5, 3) := by decide +kernel
theorem dX11_append_31 : decode cX11_append 31 = .ok (.iconst 0, 1) := by decide +kernel
theorem dX11_append_32 : decode cX11_append 32 = .ok (.ireturn, 1) := by decide +kernel
theorem dX11_append_33 : decode cX11_append 33 = .ok (.iconst 0, 1) := by decide +kernel
theorem dX11_append_34 : decode cX11_append 34 = .ok (.istore 6, 2) := by decide +kernel
theorem dX11_append_36 : decode cX11_append 36 = .ok (.iload 6, 2) := by decide +kernel
theorem dX11_append_38 : decode cX11_append 38 = .ok (.bipush 20, 2) := by decide +kernel
theorem dX11_append_40 : decode cX11_append 40 = .ok (.if_icmp .ge 86, 3) := by decide +kernel
theorem dX11_append_43 : decode cX11_append 43 = .ok (.iload 6, 2) := by decide +kernel
theorem dX11_append_45 : decode cX11_append 45 = .ok (.iconst 4, 1) := by decide +kernel
theorem dX11_append_46 : decode cX11_append 46 = .ok (.if_icmp .ge 7, 3) := by decide +kernel
theorem dX11_append_49 : decode cX11_append 49 = .ok (.iload_n 1, 1) := by decide +kernel
theorem dX11_append_50 : decode cX11_append 50 = .ok (.goto 39, 3) := by decide +kernel
theorem dX11_append_53 : decode cX11_append 53 = .ok (.iload 6, 2) := by decide +kernel
theorem dX11_append_55 : decode cX11_append 55 = .ok (.bipush 8, 2) := by decide +kernel
theorem dX11_append_57 : decode cX11_append 57 = .ok (.if_icmp .ge 7, 3) := by decide +kernel
theorem dX11_append_60 : decode cX11_append 60 = .ok (.iload_n 2, 1) := by decide +kernel
theorem dX11_append_61 : decode cX11_append 61 = .ok (.goto 28, 3) := by decide +kernel
theorem dX11_append_64 : decode cX11_append 64 = .ok (.iload 6, 2) := by decide +kernel
theorem dX11_append_66 : decode cX11_append 66 = .ok (.bipush 12, 2) := by decide +kernel
theorem dX11_append_68 : decode cX11_append 68 = .ok (.if_icmp .ge 7, 3) := by decide +kernel
theorem dX11_append_71 : decode cX11_append 71 = .ok (.iload_n 3, 1) := by decide +kernel
theorem dX11_append_72 : decode cX11_append 72 = .ok (.goto 17, 3) := by decide +kernel
theorem dX11_append_75 : decode cX11_append 75 = .ok (.iload 6, 2) := by decide +kernel
theorem dX11_append_77 : decode cX11_append 77 = .ok (.bipush 16, 2) := by decide +kernel
theorem dX11_append_79 : decode cX11_append 79 = .ok (.if_icmp .ge 8, 3) := by decide +kernel
theorem dX11_append_82 : decode cX11_append 82 = .ok (.iload 4, 2) := by decide +kernel
theorem dX11_append_84 : decode cX11_append 84 = .ok (.goto 5, 3) := by decide +kernel
theorem dX11_append_87 : decode cX11_append 87 = .ok (.iload 5, 2) := by decide +kernel
theorem dX11_append_89 : decode cX11_append 89 = .ok (.istore 7, 2) := by decide +kernel
theorem dX11_append_91 : decode cX11_append 91 = .ok (.aload_n 0, 1) := by decide +kernel
theorem dX11_append_92 : decode cX11_append 92 = .ok (.getfield 41, 3) := by decide +kernel
theorem dX11_append_95 : decode cX11_append 95 = .ok (.aload_n 0, 1) := by decide +kernel
theorem dX11_append_96 : decode cX11_append 96 = .ok (.getfield 75, 3) := by decide +kernel
theorem dX11_append_99 : decode cX11_append 99 = .ok (.iload 6, 2) := by decide +kernel
theorem dX11_append_101 : decode cX11_append 101 = .ok (.iadd, 1) := by decide +kernel
theorem dX11_append_102 : decode cX11_append 102 = .ok (.iload 7, 2) := by decide +kernel
theorem dX11_append_104 : decode cX11_append 104 = .ok (.bipush 24, 2) := by decide +kernel
theorem dX11_append_106 : decode cX11_append 106 = .ok (.bipush 8, 2) := by decide +kernel
theorem dX11_append_108 : decode cX11_append 108 = .ok (.iload 6, 2) := by decide +kernel
theorem dX11_append_110 : decode cX11_append 110 = .ok (.iconst 4, 1) := by decide +kernel
theorem dX11_append_111 : decode cX11_append 111 = .ok (.irem, 1) := by decide +kernel
theorem dX11_append_112 : decode cX11_append 112 = .ok (.imul, 1) := by decide +kernel
theorem dX11_append_113 : decode cX11_append 113 = .ok (.isub, 1) := by decide +kernel
theorem dX11_append_114 : decode cX11_append 114 = .ok (.ishr, 1) := by decide +kernel
theorem dX11_append_115 : decode cX11_append 115 = .ok (.sipush 255, 3) := by decide +kernel
theorem dX11_append_118 : decode cX11_append 118 = .ok (.iand, 1) := by decide +kernel
theorem dX11_append_119 : decode cX11_append 119 = .ok (.iastore, 1) := by decide +kernel
theorem dX11_append_120 : decode cX11_append 120 = .ok (.iinc 6 1, 3) := by decide +kernel
theorem dX11_append_123 : decode cX11_append 123 = .ok (.goto (-87), 3) := by decide +kernel
theorem dX11_append_126 : decode cX11_append 126 = .ok (.aload_n 0, 1) := by decide +kernel
theorem dX11_append_127 : decode cX11_append 127 = .ok (.dup, 1) := by decide +kernel
theorem dX11_append_128 : decode cX11_append 128 = .ok (.getfield 75, 3) := by decide +kernel
theorem dX11_append_131 : decode cX11_append 131 = .ok (.bipush 20, 2) := by decide +kernel
theorem dX11_append_133 : decode cX11_append 133 = .ok (.iadd, 1) := by decide +kernel
theorem dX11_append_134 : decode cX11_append 134 = .ok (.putfield 75, 3) := by decide +kernel
theorem dX11_append_137 : decode cX11_append 137 = .ok (.aload_n 0, 1) := by decide +kernel
theorem dX11_append_138 : decode cX11_append 138 = .ok (.getfield 75, 3) := by decide +kernel
theorem dX11_append_141 : decode cX11_append 141 = .ok (.ireturn, 1) := by decide +kernel
theorem dX11_truncate_0 : decode cX11_truncate 0 = .ok (.aload_n 0, 1) := by decide +kernel
theorem dX11_truncate_1 : decode cX11_truncate 1 = .ok (.iconst 0, 1) := by decide +kernel
theorem dX11_truncate_2 : decode cX11_truncate 2 = .ok (.putfield 72, 3) := by decide +kernel
theorem dX11_truncate_5 : decode cX11_truncate 5 = .ok (.aload_n 0, 1) := by decide +kernel
theorem dX11_truncate_6 : decode cX11_truncate 6 = .ok (.iload_n 1, 1) := by decide +kernel
theorem dX11_truncate_7 : decode cX11_truncate 7 = .ok (.i2l, 1) := by decide +kernel
theorem dX11_truncate_8 : decode cX11_truncate 8 = .ok (.lconst 0, 1) := by decide +kernel
theorem dX11_truncate_9 : decode cX11_truncate 9 = .ok (.aload_n 0, 1) := by decide +kernel
theorem dX11_truncate_10 : decode cX11_truncate 10 = .ok (.getfield 75, 3) := by decide +kernel
theorem dX11_truncate_13 : decode cX11_truncate 13 = .ok (.i2l, 1) := by decide +kernel
theorem dX11_truncate_14 : decode cX11_truncate 14 = .ok (.invokestatic 82, 3) := by decide +kernel
theorem dX11_truncate_17 : decode cX11_truncate 17 = .ok (.iconst 1, 1) := by decide +kernel
theorem dX11_truncate_18 : decode cX11_truncate 18 = .ok (.invokevirtual 78, 3) := by decide +kernel
theorem dX11_truncate_21 : decode cX11_truncate 21 = .ok (.ifCond .ne 5, 3) := by decide +kernel
theorem dX11_truncate_24 : decode cX11_truncate 24 = .ok (.iconst 0, 1) := by decide +kernel
theorem dX11_truncate_25 : decode cX11_truncate 25 = .ok (.ireturn, 1) := by decide +kernel
theorem dX11_truncate_26 : decode cX11_truncate 26 = .ok (.aload_n 0, 1) := by decide +kernel
theorem dX11_truncate_27 : decode cX11_truncate 27 = .ok (.iload_n 1, 1) := by decide +kernel
theorem dX11_truncate_28 : decode cX11_truncate 28 = .ok (.putfield 75, 3) := by decide +kernel
theorem dX11_truncate_31 : decode cX11_truncate 31 = .ok (.iload_n 1, 1) := by decide +kernel
theorem dX11_truncate_32 : decode cX11_truncate 32 = .ok (.ireturn, 1) := by decide +kernel
theorem dX11_byteAt_0 : decode cX11_byteAt 0 = .ok (.iload_n 1, 1) := by decide +kernel
theorem dX11_byteAt_1 : decode cX11_byteAt 1 = .ok (.aload_n 0, 1) := by decide +kernel
theorem dX11_byteAt_2 : decode cX11_byteAt 2 = .ok (.getfield 86, 3) := by decide +kernel
theorem dX11_byteAt_5 : decode cX11_byteAt 5 = .ok (.if_icmp .ge 12, 3) := by decide +kernel
theorem dX11_byteAt_8 : decode cX11_byteAt 8 = .ok (.aload_n 0, 1) := by decide +kernel
theorem dX11_byteAt_9 : decode cX11_byteAt 9 = .ok (.getfield 41, 3) := by decide +kernel
theorem dX11_byteAt_12 : decode cX11_byteAt 12 = .ok (.iload_n 1, 1) := by decide +kernel
theorem dX11_byteAt_13 : decode cX11_byteAt 13 = .ok (.iaload, 1) := by decide +kernel
theorem dX11_byteAt_14 : decode cX11_byteAt 14 = .ok (.goto 4, 3) := by decide +kernel
theorem dX11_byteAt_17 : decode cX11_byteAt 17 = .ok (.iconst (-1), 1) := by decide +kernel
theorem dX11_byteAt_18 : decode cX11_byteAt 18 = .ok (.ireturn, 1) := by decide +kernel
theorem dX11_isLetter_0 : decode cX11_isLetter 0 = .ok (.iload_n 0, 1) := by decide +kernel
theorem dX11_isLetter_1 : decode cX11_isLetter 1 = .ok (.bipush 97, 2) := by decide +kernel
theorem dX11_isLetter_3 : decode cX11_isLetter 3 = .ok (.if_icmp .lt 13, 3) := by decide +kernel
theorem dX11_isLetter_6 : decode cX11_isLetter 6 = .ok (.iload_n 0, 1) := by decide +kernel
theorem dX11_isLetter_7 : decode cX11_isLetter 7 = .ok (.bipush 122, 2) := by decide +kernel
theorem dX11_isLetter_9 : decode cX11_isLetter 9 = .ok (.if_icmp .gt 7, 3) := by decide +kernel
theorem dX11_isLetter_12 : decode cX11_isLetter 12 = .ok (.iconst 1, 1) := by decide +kernel
theorem dX11_isLetter_13 : decode cX11_isLetter 13 = .ok (.goto 4, 3) := by decide +kernel
theorem dX11_isLetter_16 : decode cX11_isLetter 16 = .ok (.iconst 0, 1) := by decide +kernel
theorem dX11_isLetter_17 : decode cX11_isLetter 17 = .ok (.ireturn, 1) := by decide +kernel
theorem dX11_isDigit_0 : decode cX11_isDigit 0 = .ok (.iload_n 0, 1) := by decide +kernel
theorem dX11_isDigit_1 : decode cX11_isDigit 1 = .ok (.bipush 48, 2) := by decide +kernel
theorem dX11_isDigit_3 : decode cX11_isDigit 3 = .ok (.if_icmp .lt 13, 3) := by decide +kernel
theorem dX11_isDigit_6 : decode cX11_isDigit 6 = .ok (.iload_n 0, 1) := by decide +kernel
theorem dX11_isDigit_7 : decode cX11_isDigit 7 = .ok (.bipush 57, 2) := by decide +kernel
theorem dX11_isDigit_9 : decode cX11_isDigit 9 = .ok (.if_icmp .gt 7, 3) := by decide +kernel
theorem dX11_isDigit_12 : decode cX11_isDigit 12 = .ok (.iconst 1, 1) := by decide +kernel
theorem dX11_isDigit_13 : decode cX11_isDigit 13 = .ok (.goto 4, 3) := by decide +kernel
theorem dX11_isDigit_16 : decode cX11_isDigit 16 = .ok (.iconst 0, 1) := by decide +kernel
theorem dX11_isDigit_17 : decode cX11_isDigit 17 = .ok (.ireturn, 1) := by decide +kernel
theorem dX11_token_0 : decode cX11_token 0 = .ok (.aload_n 0, 1) := by decide +kernel
theorem dX11_token_1 : decode cX11_token 1 = .ok (.aload_n 0, 1) := by decide +kernel
theorem dX11_token_2 : decode cX11_token 2 = .ok (.getfield 89, 3) := by decide +kernel
theorem dX11_token_5 : decode cX11_token 5 = .ok (.invokevirtual 92, 3) := by decide +kernel
theorem dX11_token_8 : decode cX11_token 8 = .ok (.bipush 10, 2) := by decide +kernel
theorem dX11_token_10 : decode cX11_token 10 = .ok (.if_icmp .eq 16, 3) := by decide +kernel
theorem dX11_token_13 : decode cX11_token 13 = .ok (.aload_n 0, 1) := by decide +kernel
theorem dX11_token_14 : decode cX11_token 14 = .ok (.aload_n 0, 1) := by decide +kernel
theorem dX11_token_15 : decode cX11_token 15 = .ok (.getfield 89, 3) := by decide +kernel
theorem dX11_token_18 : decode cX11_token 18 = .ok (.invokevirtual 92, 3) := by decide +kernel
theorem dX11_token_21 : decode cX11_token 21 = .ok (.bipush 32, 2) := by decide +kernel
theorem dX11_token_23 : decode cX11_token 23 = .ok (.if_icmp .ne 16, 3) := by decide +kernel
theorem dX11_token_26 : decode cX11_token 26 = .ok (.aload_n 0, 1) := by decide +kernel
theorem dX11_token_27 : decode cX11_token 27 = .ok (.dup, 1) := by decide +kernel
theorem dX11_token_28 : decode cX11_token 28 = .ok (.getfield 89, 3) := by decide +kernel
theorem dX11_token_31 : decode cX11_token 31 = .ok (.iconst 1, 1) := by decide +kernel
theorem dX11_token_32 : decode cX11_token 32 = .ok (.iadd, 1) := by decide +kernel
theorem dX11_token_33 : decode cX11_token 33 = .ok (.putfield 89, 3) := by decide +kernel
theorem dX11_token_36 : decode cX11_token 36 = .ok (.goto (-36), 3) := by decide +kernel
theorem dX11_token_39 : decode cX11_token 39 = .ok (.aload_n 0, 1) := by decide +kernel
theorem dX11_token_40 : decode cX11_token 40 = .ok (.aload_n 0, 1) := by decide +kernel
theorem dX11_token_41 : decode cX11_token 41 = .ok (.getfield 89, 3) := by decide +kernel
theorem dX11_token_44 : decode cX11_token 44 = .ok (.putfield 96, 3) := by decide +kernel
theorem dX11_token_47 : decode cX11_token 47 = .ok (.aload_n 0, 1) := by decide +kernel
theorem dX11_token_48 : decode cX11_token 48 = .ok (.aload_n 0, 1) := by decide +kernel
theorem dX11_token_49 : decode cX11_token 49 = .ok (.getfield 89, 3) := by decide +kernel
theorem dX11_token_52 : decode cX11_token 52 = .ok (.invokevirtual 92, 3) := by decide +kernel
theorem dX11_token_55 : decode cX11_token 55 = .ok (.istore_n 1, 1) := by decide +kernel
theorem dX11_token_56 : decode cX11_token 56 = .ok (.iload_n 1, 1) := by decide +kernel
theorem dX11_token_57 : decode cX11_token 57 = .ok (.iconst (-1), 1) := by decide +kernel
theorem dX11_token_58 : decode cX11_token 58 = .ok (.if_icmp .ne 11, 3) := by decide +kernel
theorem dX11_token_61 : decode cX11_token 61 = .ok (.aload_n 0, 1) := by decide +kernel
theorem dX11_token_62 : decode cX11_token 62 = .ok (.iconst 0, 1) := by decide +kernel
theorem dX11_token_63 : decode cX11_token 63 = .ok (.putfield 99, 3) := by decide +kernel
theorem dX11_token_66 : decode cX11_token 66 = .ok (.goto 112, 3) := by decide +kernel
theorem dX11_token_69 : decode cX11_token 69 = .ok (.iload_n 1, 1) := by decide +kernel
theorem dX11_token_70 : decode cX11_token 70 = .ok (.invokestatic 102, 3) := by decide +kernel
theorem dX11_token_73 : decode cX11_token 73 = .ok (.ifCond .eq 38, 3) := by decide +kernel
theorem dX11_token_76 : decode cX11_token 76 = .ok (.aload_n 0, 1) := by decide +kernel
theorem dX11_token_77 : decode cX11_token 77 = .ok (.aload_n 0, 1) := by decide +kernel
theorem dX11_token_78 : decode cX11_token 78 = .ok (.getfield 89, 3) := by decide +kernel
theorem dX11_token_81 : decode cX11_token 81 = .ok (.invokevirtual 92, 3) := by decide +kernel
theorem dX11_token_84 : decode cX11_token 84 = .ok (.invokestatic 102, 3) := by decide +kernel
theorem dX11_token_87 : decode cX11_token 87 = .ok (.ifCond .eq 16, 3) := by decide +kernel
theorem dX11_token_90 : decode cX11_token 90 = .ok (.aload_n 0, 1) := by decide +kernel
theorem dX11_token_91 : decode cX11_token 91 = .ok (.dup, 1) := by decide +kernel
theorem dX11_token_92 : decode cX11_token 92 = .ok (.getfield 89, 3) := by decide +kernel
theorem dX11_token_95 : decode cX11_token 95 = .ok (.iconst 1, 1) := by decide +kernel
theorem dX11_token_96 : decode cX11_token 96 = .ok (.iadd, 1) := by decide +kernel
theorem dX11_token_97 : decode cX11_token 97 = .ok (.putfield 89, 3) := by decide +kernel
theorem dX11_token_100 : decode cX11_token 100 = .ok (.goto (-24), 3) := by decide +kernel
theorem dX11_token_103 : decode cX11_token 103 = .ok (.aload_n 0, 1) := by decide +kernel
theorem dX11_token_104 : decode cX11_token 104 = .ok (.iconst 1, 1) := by decide +kernel
theorem dX11_token_105 : decode cX11_token 105 = .ok (.putfield 99, 3) := by decide +kernel
theorem dX11_token_108 : decode cX11_token 108 = .ok (.goto 70, 3) := by decide +kernel
theorem dX11_token_111 : decode cX11_token 111 = .ok (.iload_n 1, 1) := by decide +kernel
theorem dX11_token_112 : decode cX11_token 112 = .ok (.invokestatic 106, 3) := by decide +kernel
theorem dX11_token_115 : decode cX11_token 115 = .ok (.ifCond .eq 38, 3) := by decide +kernel
theorem dX11_token_118 : decode cX11_token 118 = .ok (.aload_n 0, 1) := by decide +kernel
theorem dX11_token_119 : decode cX11_token 119 = .ok (.aload_n 0, 1) := by decide +kernel
theorem dX11_token_120 : decode cX11_token 120 = .ok (.getfield 89, 3) := by decide +kernel
theorem dX11_token_123 : decode cX11_token 123 = .ok (.invokevirtual 92, 3) := by decide +kernel
theorem dX11_token_126 : decode cX11_token 126 = .ok (.invokestatic 106, 3) := by decide +kernel
theorem dX11_token_129 : decode cX11_token 129 = .ok (.ifCond .eq 16, 3) := by decide +kernel
theorem dX11_token_132 : decode cX11_token 132 = .ok (.aload_n 0, 1) := by decide +kernel
theorem dX11_token_133 : decode cX11_token 133 = .ok (.dup, 1) := by decide +kernel
theorem dX11_token_134 : decode cX11_token 134 = .ok (.getfield 89, 3) := by decide +kernel
theorem dX11_token_137 : decode cX11_token 137 = .ok (.iconst 1, 1) := by decide +kernel
theorem dX11_token_138 : decode cX11_token 138 = .ok (.iadd, 1) := by decide +kernel
theorem dX11_token_139 : decode cX11_token 139 = .ok (.putfield 89, 3) := by decide +kernel
theorem dX11_token_142 : decode cX11_token 142 = .ok (.goto (-24), 3) := by decide +kernel
theorem dX11_token_145 : decode cX11_token 145 = .ok (.aload_n 0, 1) := by decide +kernel
theorem dX11_token_146 : decode cX11_token 146 = .ok (.iconst 2, 1) := by decide +kernel
theorem dX11_token_147 : decode cX11_token 147 = .ok (.putfield 99, 3) := by decide +kernel
theorem dX11_token_150 : decode cX11_token 150 = .ok (.goto 28, 3) := by decide +kernel
theorem dX11_token_153 : decode cX11_token 153 = .ok (.aload_n 0, 1) := by decide +kernel
theorem dX11_token_154 : decode cX11_token 154 = .ok (.dup, 1) := by decide +kernel
theorem dX11_token_155 : decode cX11_token 155 = .ok (.getfield 89, 3) := by decide +kernel
theorem dX11_token_158 : decode cX11_token 158 = .ok (.iconst 1, 1) := by decide +kernel
theorem dX11_token_159 : decode cX11_token 159 = .ok (.iadd, 1) := by decide +kernel
theorem dX11_token_160 : decode cX11_token 160 = .ok (.putfield 89, 3) := by decide +kernel
theorem dX11_token_163 : decode cX11_token 163 = .ok (.aload_n 0, 1) := by decide +kernel
theorem dX11_token_164 : decode cX11_token 164 = .ok (.iload_n 1, 1) := by decide +kernel
theorem dX11_token_165 : decode cX11_token 165 = .ok (.bipush 59, 2) := by decide +kernel
theorem dX11_token_167 : decode cX11_token 167 = .ok (.if_icmp .ne 7, 3) := by decide +kernel
theorem dX11_token_170 : decode cX11_token 170 = .ok (.iconst 3, 1) := by decide +kernel
theorem dX11_token_171 : decode cX11_token 171 = .ok (.goto 4, 3) := by decide +kernel
theorem dX11_token_174 : decode cX11_token 174 = .ok (.iconst 4, 1) := by decide +kernel
theorem dX11_token_175 : decode cX11_token 175 = .ok (.putfield 99, 3) := by decide +kernel
theorem dX11_token_178 : decode cX11_token 178 = .ok (.return_, 1) := by decide +kernel
theorem dX11_isWrong_0 : decode cX11_isWrong 0 = .ok (.aload_n 0, 1) := by decide +kernel
theorem dX11_isWrong_1 : decode cX11_isWrong 1 = .ok (.getfield 109, 3) := by decide +kernel
theorem dX11_isWrong_4 : decode cX11_isWrong 4 = .ok (.ifCond .eq 7, 3) := by decide +kernel
theorem dX11_isWrong_7 : decode cX11_isWrong 7 = .ok (.iconst 1, 1) := by decide +kernel
theorem dX11_isWrong_8 : decode cX11_isWrong 8 = .ok (.goto 4, 3) := by decide +kernel
theorem dX11_isWrong_11 : decode cX11_isWrong 11 = .ok (.iconst 0, 1) := by decide +kernel
theorem dX11_isWrong_12 : decode cX11_isWrong 12 = .ok (.ireturn, 1) := by decide +kernel
theorem dX11_fails_0 : decode cX11_fails 0 = .ok (.aload_n 0, 1) := by decide +kernel
theorem dX11_fails_1 : decode cX11_fails 1 = .ok (.invokevirtual 112, 3) := by decide +kernel
theorem dX11_fails_4 : decode cX11_fails 4 = .ok (.ifCond .eq 4, 3) := by decide +kernel
theorem dX11_fails_7 : decode cX11_fails 7 = .ok (.return_, 1) := by decide +kernel
theorem dX11_fails_8 : decode cX11_fails 8 = .ok (.aload_n 0, 1) := by decide +kernel
theorem dX11_fails_9 : decode cX11_fails 9 = .ok (.iload_n 1, 1) := by decide +kernel
theorem dX11_fails_10 : decode cX11_fails 10 = .ok (.putfield 109, 3) := by decide +kernel
theorem dX11_fails_13 : decode cX11_fails 13 = .ok (.aload_n 0, 1) := by decide +kernel
theorem dX11_fails_14 : decode cX11_fails 14 = .ok (.aload_n 0, 1) := by decide +kernel
theorem dX11_fails_15 : decode cX11_fails 15 = .ok (.getfield 96, 3) := by decide +kernel
theorem dX11_fails_18 : decode cX11_fails 18 = .ok (.putfield 62, 3) := by decide +kernel
theorem dX11_fails_21 : decode cX11_fails 21 = .ok (.return_, 1) := by decide +kernel
theorem dX11_isWord_0 : decode cX11_isWord 0 = .ok (.aload_n 0, 1) := by decide +kernel
theorem dX11_isWord_1 : decode cX11_isWord 1 = .ok (.invokevirtual 112, 3) := by decide +kernel
theorem dX11_isWord_4 : decode cX11_isWord 4 = .ok (.ifCond .ne 27, 3) := by decide +kernel
theorem dX11_isWord_7 : decode cX11_isWord 7 = .ok (.aload_n 0, 1) := by decide +kernel
theorem dX11_isWord_8 : decode cX11_isWord 8 = .ok (.getfield 99, 3) := by decide +kernel
theorem dX11_isWord_11 : decode cX11_isWord 11 = .ok (.iconst 1, 1) := by decide +kernel
theorem dX11_isWord_12 : decode cX11_isWord 12 = .ok (.if_icmp .ne 19, 3) := by decide +kernel
theorem dX11_isWord_15 : decode cX11_isWord 15 = .ok (.aload_n 0, 1) := by decide +kernel
theorem dX11_isWord_16 : decode cX11_isWord 16 = .ok (.getfield 89, 3) := by decide +kernel
theorem dX11_isWord_19 : decode cX11_isWord 19 = .ok (.aload_n 0, 1) := by decide +kernel
theorem dX11_isWord_20 : decode cX11_isWord 20 = .ok (.getfield 96, 3) := by decide +kernel
theorem dX11_isWord_23 : decode cX11_isWord 23 = .ok (.isub, 1) := by decide +kernel
theorem dX11_isWord_24 : decode cX11_isWord 24 = .ok (.aload_n 1, 1) := by decide +kernel
theorem dX11_isWord_25 : decode cX11_isWord 25 = .ok (.invokevirtual 116, 3) := by decide +kernel
theorem dX11_isWord_28 : decode cX11_isWord 28 = .ok (.if_icmp .eq 5, 3) := by decide +kernel
theorem dX11_isWord_31 : decode cX11_isWord 31 = .ok (.iconst 0, 1) := by decide +kernel
theorem dX11_isWord_32 : decode cX11_isWord 32 = .ok (.ireturn, 1) := by decide +kernel
theorem dX11_isWord_33 : decode cX11_isWord 33 = .ok (.iconst 0, 1) := by decide +kernel
theorem dX11_isWord_34 : decode cX11_isWord 34 = .ok (.istore_n 2, 1) := by decide +kernel
theorem dX11_isWord_35 : decode cX11_isWord 35 = .ok (.iload_n 2, 1) := by decide +kernel
theorem dX11_isWord_36 : decode cX11_isWord 36 = .ok (.aload_n 1, 1) := by decide +kernel
theorem dX11_isWord_37 : decode cX11_isWord 37 = .ok (.invokevirtual 116, 3) := by decide +kernel
theorem dX11_isWord_40 : decode cX11_isWord 40 = .ok (.if_icmp .ge 29, 3) := by decide +kernel
theorem dX11_isWord_43 : decode cX11_isWord 43 = .ok (.aload_n 0, 1) := by decide +kernel
theorem dX11_isWord_44 : decode cX11_isWord 44 = .ok (.aload_n 0, 1) := by decide +kernel
theorem dX11_isWord_45 : decode cX11_isWord 45 = .ok (.getfield 96, 3) := by decide +kernel
theorem dX11_isWord_48 : decode cX11_isWord 48 = .ok (.iload_n 2, 1) := by decide +kernel
theorem dX11_isWord_49 : decode cX11_isWord 49 = .ok (.iadd, 1) := by decide +kernel
theorem dX11_isWord_50 : decode cX11_isWord 50 = .ok (.invokevirtual 92, 3) := by decide +kernel
theorem dX11_isWord_53 : decode cX11_isWord 53 = .ok (.aload_n 1, 1) := by decide +kernel
theorem dX11_isWord_54 : decode cX11_isWord 54 = .ok (.iload_n 2, 1) := by decide +kernel
theorem dX11_isWord_55 : decode cX11_isWord 55 = .ok (.invokevirtual 122, 3) := by decide +kernel
theorem dX11_isWord_58 : decode cX11_isWord 58 = .ok (.if_icmp .eq 5, 3) := by decide +kernel
theorem dX11_isWord_61 : decode cX11_isWord 61 = .ok (.iconst 0, 1) := by decide +kernel
theorem dX11_isWord_62 : decode cX11_isWord 62 = .ok (.ireturn, 1) := by decide +kernel
theorem dX11_isWord_63 : decode cX11_isWord 63 = .ok (.iinc 2 1, 3) := by decide +kernel
theorem dX11_isWord_66 : decode cX11_isWord 66 = .ok (.goto (-31), 3) := by decide +kernel
theorem dX11_isWord_69 : decode cX11_isWord 69 = .ok (.iconst 1, 1) := by decide +kernel
theorem dX11_isWord_70 : decode cX11_isWord 70 = .ok (.ireturn, 1) := by decide +kernel
theorem dX11_passes_0 : decode cX11_passes 0 = .ok (.iload_n 1, 1) := by decide +kernel
theorem dX11_passes_1 : decode cX11_passes 1 = .ok (.ifCond .ne 8, 3) := by decide +kernel
theorem dX11_passes_4 : decode cX11_passes 4 = .ok (.aload_n 0, 1) := by decide +kernel
theorem dX11_passes_5 : decode cX11_passes 5 = .ok (.iconst 1, 1) := by decide +kernel
theorem dX11_passes_6 : decode cX11_passes 6 = .ok (.invokevirtual 126, 3) := by decide +kernel
theorem dX11_passes_9 : decode cX11_passes 9 = .ok (.aload_n 0, 1) := by decide +kernel
theorem dX11_passes_10 : decode cX11_passes 10 = .ok (.invokevirtual 112, 3) := by decide +kernel
theorem dX11_passes_13 : decode cX11_passes 13 = .ok (.ifCond .ne 7, 3) := by decide +kernel
theorem dX11_passes_16 : decode cX11_passes 16 = .ok (.aload_n 0, 1) := by decide +kernel
theorem dX11_passes_17 : decode cX11_passes 17 = .ok (.invokevirtual 130, 3) := by decide +kernel
theorem dX11_passes_20 : decode cX11_passes 20 = .ok (.return_, 1) := by decide +kernel
theorem dX11_semicolon_0 : decode cX11_semicolon 0 = .ok (.aload_n 0, 1) := by decide +kernel
theorem dX11_semicolon_1 : decode cX11_semicolon 1 = .ok (.aload_n 0, 1) := by decide +kernel
theorem dX11_semicolon_2 : decode cX11_semicolon 2 = .ok (.getfield 99, 3) := by decide +kernel
theorem dX11_semicolon_5 : decode cX11_semicolon 5 = .ok (.iconst 3, 1) := by decide +kernel
theorem dX11_semicolon_6 : decode cX11_semicolon 6 = .ok (.if_icmp .ne 7, 3) := by decide +kernel
theorem dX11_semicolon_9 : decode cX11_semicolon 9 = .ok (.iconst 1, 1) := by decide +kernel
theorem dX11_semicolon_10 : decode cX11_semicolon 10 = .ok (.goto 4, 3) := by decide +kernel
theorem dX11_semicolon_13 : decode cX11_semicolon 13 = .ok (.iconst 0, 1) := by decide +kernel
theorem dX11_semicolon_14 : decode cX11_semicolon 14 = .ok (.invokevirtual 133, 3) := by decide +kernel
theorem dX11_semicolon_17 : decode cX11_semicolon 17 = .ok (.return_, 1) := by decide +kernel
theorem dX11_figure_0 : decode cX11_figure 0 = .ok (.aload_n 0, 1) := by decide +kernel
theorem dX11_figure_1 : decode cX11_figure 1 = .ok (.invokevirtual 112, 3) := by decide +kernel
theorem dX11_figure_4 : decode cX11_figure 4 = .ok (.ifCond .eq 5, 3) := by decide +kernel
theorem dX11_figure_7 : decode cX11_figure 7 = .ok (.iload_n 1, 1) := by decide +kernel
theorem dX11_figure_8 : decode cX11_figure 8 = .ok (.ireturn, 1) := by decide +kernel
theorem dX11_figure_9 : decode cX11_figure 9 = .ok (.aload_n 0, 1) := by decide +kernel
theorem dX11_figure_10 : decode cX11_figure 10 = .ok (.getfield 99, 3) := by decide +kernel
theorem dX11_figure_13 : decode cX11_figure 13 = .ok (.iconst 2, 1) := by decide +kernel
theorem dX11_figure_14 : decode cX11_figure 14 = .ok (.if_icmp .ne 16, 3) := by decide +kernel
theorem dX11_figure_17 : decode cX11_figure 17 = .ok (.aload_n 0, 1) := by decide +kernel
theorem dX11_figure_18 : decode cX11_figure 18 = .ok (.getfield 89, 3) := by decide +kernel
theorem dX11_figure_21 : decode cX11_figure 21 = .ok (.aload_n 0, 1) := by decide +kernel
theorem dX11_figure_22 : decode cX11_figure 22 = .ok (.getfield 96, 3) := by decide +kernel
theorem dX11_figure_25 : decode cX11_figure 25 = .ok (.isub, 1) := by decide +kernel
theorem dX11_figure_26 : decode cX11_figure 26 = .ok (.iconst 4, 1) := by decide +kernel
theorem dX11_figure_27 : decode cX11_figure 27 = .ok (.if_icmp .le 8, 3) := by decide +kernel
theorem dX11_figure_30 : decode cX11_figure 30 = .ok (.aload_n 0, 1) := by decide +kernel
theorem dX11_figure_31 : decode cX11_figure 31 = .ok (.iconst 1, 1) := by decide +kernel
theorem dX11_figure_32 : decode cX11_figure 32 = .ok (.invokevirtual 126, 3) := by decide +kernel
theorem dX11_figure_35 : decode cX11_figure 35 = .ok (.aload_n 0, 1) := by decide +kernel
theorem dX11_figure_36 : decode cX11_figure 36 = .ok (.invokevirtual 112, 3) := by decide +kernel
theorem dX11_figure_39 : decode cX11_figure 39 = .ok (.ifCond .eq 5, 3) := by decide +kernel
theorem dX11_figure_42 : decode cX11_figure 42 = .ok (.iload_n 1, 1) := by decide +kernel
theorem dX11_figure_43 : decode cX11_figure 43 = .ok (.ireturn, 1) := by decide +kernel
theorem dX11_figure_44 : decode cX11_figure 44 = .ok (.iconst 0, 1) := by decide +kernel
theorem dX11_figure_45 : decode cX11_figure 45 = .ok (.istore_n 3, 1) := by decide +kernel
theorem dX11_figure_46 : decode cX11_figure 46 = .ok (.aload_n 0, 1) := by decide +kernel
theorem dX11_figure_47 : decode cX11_figure 47 = .ok (.getfield 96, 3) := by decide +kernel
theorem dX11_figure_50 : decode cX11_figure 50 = .ok (.istore 4, 2) := by decide +kernel
theorem dX11_figure_52 : decode cX11_figure 52 = .ok (.iload 4, 2) := by decide +kernel
theorem dX11_figure_54 : decode cX11_figure 54 = .ok (.aload_n 0, 1) := by decide +kernel
theorem dX11_figure_55 : decode cX11_figure 55 = .ok (.getfield 89, 3) := by decide +kernel
theorem dX11_figure_58 : decode cX11_figure 58 = .ok (.if_icmp .ge 24, 3) := by decide +kernel
theorem dX11_figure_61 : decode cX11_figure 61 = .ok (.bipush 10, 2) := by decide +kernel
theorem dX11_figure_63 : decode cX11_figure 63 = .ok (.iload_n 3, 1) := by decide +kernel
theorem dX11_figure_64 : decode cX11_figure 64 = .ok (.imul, 1) := by decide +kernel
theorem dX11_figure_65 : decode cX11_figure 65 = .ok (.aload_n 0, 1) := by decide +kernel
theorem dX11_figure_66 : decode cX11_figure 66 = .ok (.iload 4, 2) := by decide +kernel
theorem dX11_figure_68 : decode cX11_figure 68 = .ok (.invokevirtual 92, 3) := by decide +kernel
theorem dX11_figure_71 : decode cX11_figure 71 = .ok (.iadd, 1) := by decide +kernel
theorem dX11_figure_72 : decode cX11_figure 72 = .ok (.bipush 48, 2) := by decide +kernel
theorem dX11_figure_74 : decode cX11_figure 74 = .ok (.isub, 1) := by decide +kernel
theorem dX11_figure_75 : decode cX11_figure 75 = .ok (.istore_n 3, 1) := by decide +kernel
theorem dX11_figure_76 : decode cX11_figure 76 = .ok (.iinc 4 1, 3) := by decide +kernel
theorem dX11_figure_79 : decode cX11_figure 79 = .ok (.goto (-27), 3) := by decide +kernel
theorem dX11_figure_82 : decode cX11_figure 82 = .ok (.iload_n 3, 1) := by decide +kernel
theorem dX11_figure_83 : decode cX11_figure 83 = .ok (.i2l, 1) := by decide +kernel
theorem dX11_figure_84 : decode cX11_figure 84 = .ok (.iload_n 1, 1) := by decide +kernel
theorem dX11_figure_85 : decode cX11_figure 85 = .ok (.i2l, 1) := by decide +kernel
theorem dX11_figure_86 : decode cX11_figure 86 = .ok (.iload_n 2, 1) := by decide +kernel
theorem dX11_figure_87 : decode cX11_figure 87 = .ok (.i2l, 1) := by decide +kernel
theorem dX11_figure_88 : decode cX11_figure 88 = .ok (.invokestatic 82, 3) := by decide +kernel
theorem dX11_figure_91 : decode cX11_figure 91 = .ok (.ifCond .ne 8, 3) := by decide +kernel
theorem dX11_figure_94 : decode cX11_figure 94 = .ok (.aload_n 0, 1) := by decide +kernel
theorem dX11_figure_95 : decode cX11_figure 95 = .ok (.iconst 2, 1) := by decide +kernel
theorem dX11_figure_96 : decode cX11_figure 96 = .ok (.invokevirtual 126, 3) := by decide +kernel
theorem dX11_figure_99 : decode cX11_figure 99 = .ok (.aload_n 0, 1) := by decide +kernel
theorem dX11_figure_100 : decode cX11_figure 100 = .ok (.invokevirtual 112, 3) := by decide +kernel
theorem dX11_figure_103 : decode cX11_figure 103 = .ok (.ifCond .ne 7, 3) := by decide +kernel
theorem dX11_figure_106 : decode cX11_figure 106 = .ok (.aload_n 0, 1) := by decide +kernel
theorem dX11_figure_107 : decode cX11_figure 107 = .ok (.invokevirtual 130, 3) := by decide +kernel
theorem dX11_figure_110 : decode cX11_figure 110 = .ok (.iload_n 3, 1) := by decide +kernel
theorem dX11_figure_111 : decode cX11_figure 111 = .ok (.ireturn, 1) := by decide +kernel
theorem dX11_whichOf_0 : decode cX11_whichOf 0 = .ok (.iconst 0, 1) := by decide +kernel
theorem dX11_whichOf_1 : decode cX11_whichOf 1 = .ok (.istore 5, 2) := by decide +kernel
theorem dX11_whichOf_3 : decode cX11_whichOf 3 = .ok (.iload 5, 2) := by decide +kernel
theorem dX11_whichOf_5 : decode cX11_whichOf 5 = .ok (.iload_n 1, 1) := by decide +kernel
theorem dX11_whichOf_6 : decode cX11_whichOf 6 = .ok (.if_icmp .ge 80, 3) := by decide +kernel
theorem dX11_whichOf_9 : decode cX11_whichOf 9 = .ok (.iconst 1, 1) := by decide +kernel
theorem dX11_whichOf_10 : decode cX11_whichOf 10 = .ok (.istore 6, 2) := by decide +kernel
theorem dX11_whichOf_12 : decode cX11_whichOf 12 = .ok (.iconst 0, 1) := by decide +kernel
theorem dX11_whichOf_13 : decode cX11_whichOf 13 = .ok (.istore 7, 2) := by decide +kernel
theorem dX11_whichOf_15 : decode cX11_whichOf 15 = .ok (.iload 7, 2) := by decide +kernel
theorem dX11_whichOf_17 : decode cX11_whichOf 17 = .ok (.bipush 8, 2) := by decide +kernel
theorem dX11_whichOf_19 : decode cX11_whichOf 19 = .ok (.if_icmp .ge 53, 3) := by decide +kernel
theorem dX11_whichOf_22 : decode cX11_whichOf 22 = .ok (.iload 6, 2) := by decide +kernel
theorem dX11_whichOf_24 : decode cX11_whichOf 24 = .ok (.ifCond .eq 39, 3) := by decide +kernel
theorem dX11_whichOf_27 : decode cX11_whichOf 27 = .ok (.aload_n 0, 1) := by decide +kernel
theorem dX11_whichOf_28 : decode cX11_whichOf 28 = .ok (.bipush 8, 2) := by decide +kernel
theorem dX11_whichOf_30 : decode cX11_whichOf 30 = .ok (.iload 5, 2) := by decide +kernel
theorem dX11_whichOf_32 : decode cX11_whichOf 32 = .ok (.imul, 1) := by decide +kernel
theorem dX11_whichOf_33 : decode cX11_whichOf 33 = .ok (.iload 7, 2) := by decide +kernel
theorem dX11_whichOf_35 : decode cX11_whichOf 35 = .ok (.iadd, 1) := by decide +kernel
theorem dX11_whichOf_36 : decode cX11_whichOf 36 = .ok (.iaload, 1) := by decide +kernel
theorem dX11_whichOf_37 : decode cX11_whichOf 37 = .ok (.iload_n 3, 1) := by decide +kernel
theorem dX11_whichOf_38 : decode cX11_whichOf 38 = .ok (.iload 7, 2) := by decide +kernel
theorem dX11_whichOf_40 : decode cX11_whichOf 40 = .ok (.iadd, 1) := by decide +kernel
theorem dX11_whichOf_41 : decode cX11_whichOf 41 = .ok (.iload 4, 2) := by decide +kernel
theorem dX11_whichOf_43 : decode cX11_whichOf 43 = .ok (.if_icmp .ge 12, 3) := by decide +kernel
theorem dX11_whichOf_46 : decode cX11_whichOf 46 = .ok (.aload_n 2, 1) := by decide +kernel
theorem dX11_whichOf_47 : decode cX11_whichOf 47 = .ok (.iload_n 3, 1) := by decide +kernel
theorem dX11_whichOf_48 : decode cX11_whichOf 48 = .ok (.iload 7, 2) := by decide +kernel
theorem dX11_whichOf_50 : decode cX11_whichOf 50 = .ok (.iadd, 1) := by decide +kernel
theorem dX11_whichOf_51 : decode cX11_whichOf 51 = .ok (.iaload, 1) := by decide +kernel
theorem dX11_whichOf_52 : decode cX11_whichOf 52 = .ok (.goto 4, 3) := by decide +kernel
theorem dX11_whichOf_55 : decode cX11_whichOf 55 = .ok (.iconst 0, 1) := by decide +kernel
theorem dX11_whichOf_56 : decode cX11_whichOf 56 = .ok (.if_icmp .ne 7, 3) := by decide +kernel
theorem dX11_whichOf_59 : decode cX11_whichOf 59 = .ok (.iconst 1, 1) := by decide +kernel
theorem dX11_whichOf_60 : decode cX11_whichOf 60 = .ok (.goto 4, 3) := by decide +kernel
theorem dX11_whichOf_63 : decode cX11_whichOf 63 = .ok (.iconst 0, 1) := by decide +kernel
theorem dX11_whichOf_64 : decode cX11_whichOf 64 = .ok (.istore 6, 2) := by decide +kernel
theorem dX11_whichOf_66 : decode cX11_whichOf 66 = .ok (.iinc 7 1, 3) := by decide +kernel
theorem dX11_whichOf_69 : decode cX11_whichOf 69 = .ok (.goto (-54), 3) := by decide +kernel
theorem dX11_whichOf_72 : decode cX11_whichOf 72 = .ok (.iload 6, 2) := by decide +kernel
theorem dX11_whichOf_74 : decode cX11_whichOf 74 = .ok (.ifCond .eq 6, 3) := by decide +kernel
theorem dX11_whichOf_77 : decode cX11_whichOf 77 = .ok (.iload 5, 2) := by decide +kernel
theorem dX11_whichOf_79 : decode cX11_whichOf 79 = .ok (.ireturn, 1) := by decide +kernel
theorem dX11_whichOf_80 : decode cX11_whichOf 80 = .ok (.iinc 5 1, 3) := by decide +kernel
theorem dX11_whichOf_83 : decode cX11_whichOf 83 = .ok (.goto (-80), 3) := by decide +kernel
theorem dX11_whichOf_86 : decode cX11_whichOf 86 = .ok (.iconst (-1), 1) := by decide +kernel
theorem dX11_whichOf_87 : decode cX11_whichOf 87 = .ok (.ireturn, 1) := by decide +kernel
theorem dX11_isName_0 : decode cX11_isName 0 = .ok (.aload_n 0, 1) := by decide +kernel
theorem dX11_isName_1 : decode cX11_isName 1 = .ok (.invokevirtual 112, 3) := by decide +kernel
theorem dX11_isName_4 : decode cX11_isName 4 = .ok (.ifCond .ne 29, 3) := by decide +kernel
theorem dX11_isName_7 : decode cX11_isName 7 = .ok (.aload_n 0, 1) := by decide +kernel
theorem dX11_isName_8 : decode cX11_isName 8 = .ok (.getfield 99, 3) := by decide +kernel
theorem dX11_isName_11 : decode cX11_isName 11 = .ok (.iconst 1, 1) := by decide +kernel
theorem dX11_isName_12 : decode cX11_isName 12 = .ok (.if_icmp .ne 21, 3) := by decide +kernel
theorem dX11_isName_15 : decode cX11_isName 15 = .ok (.aload_n 0, 1) := by decide +kernel
theorem dX11_isName_16 : decode cX11_isName 16 = .ok (.getfield 89, 3) := by decide +kernel
theorem dX11_isName_19 : decode cX11_isName 19 = .ok (.aload_n 0, 1) := by decide +kernel
theorem dX11_isName_20 : decode cX11_isName 20 = .ok (.getfield 96, 3) := by decide +kernel
theorem dX11_isName_23 : decode cX11_isName 23 = .ok (.isub, 1) := by decide +kernel
theorem dX11_isName_24 : decode cX11_isName 24 = .ok (.bipush 8, 2) := by decide +kernel
theorem dX11_isName_26 : decode cX11_isName 26 = .ok (.if_icmp .gt 7, 3) := by decide +kernel
theorem dX11_isName_29 : decode cX11_isName 29 = .ok (.iconst 1, 1) := by decide +kernel
theorem dX11_isName_30 : decode cX11_isName 30 = .ok (.goto 4, 3) := by decide +kernel
theorem dX11_isName_33 : decode cX11_isName 33 = .ok (.iconst 0, 1) := by decide +kernel
theorem dX11_isName_34 : decode cX11_isName 34 = .ok (.ireturn, 1) := by decide +kernel
theorem dX11_looksUp_0 : decode cX11_looksUp 0 = .ok (.aload_n 0, 1) := by decide +kernel
theorem dX11_looksUp_1 : decode cX11_looksUp 1 = .ok (.invokevirtual 137, 3) := by decide +kernel
theorem dX11_looksUp_4 : decode cX11_looksUp 4 = .ok (.ifCond .ne 8, 3) := by decide +kernel
theorem dX11_looksUp_7 : decode cX11_looksUp 7 = .ok (.aload_n 0, 1) := by decide +kernel
theorem dX11_looksUp_8 : decode cX11_looksUp 8 = .ok (.iconst 1, 1) := by decide +kernel
theorem dX11_looksUp_9 : decode cX11_looksUp 9 = .ok (.invokevirtual 126, 3) := by decide +kernel
theorem dX11_looksUp_12 : decode cX11_looksUp 12 = .ok (.aload_n 0, 1) := by decide +kernel
theorem dX11_looksUp_13 : decode cX11_looksUp 13 = .ok (.invokevirtual 112, 3) := by decide +kernel
theorem dX11_looksUp_16 : decode cX11_looksUp 16 = .ok (.ifCond .eq 7, 3) := by decide +kernel
theorem dX11_looksUp_19 : decode cX11_looksUp 19 = .ok (.iconst 0, 1) := by decide +kernel
theorem dX11_looksUp_20 : decode cX11_looksUp 20 = .ok (.goto 26, 3) := by decide +kernel
theorem dX11_looksUp_23 : decode cX11_looksUp 23 = .ok (.aload_n 0, 1) := by decide +kernel
theorem dX11_looksUp_24 : decode cX11_looksUp 24 = .ok (.getfield 59, 3) := by decide +kernel
theorem dX11_looksUp_27 : decode cX11_looksUp 27 = .ok (.aload_n 0, 1) := by decide +kernel
theorem dX11_looksUp_28 : decode cX11_looksUp 28 = .ok (.getfield 140, 3) := by decide +kernel
theorem dX11_looksUp_31 : decode cX11_looksUp 31 = .ok (.aload_n 0, 1) := by decide +kernel
theorem dX11_looksUp_32 : decode cX11_looksUp 32 = .ok (.getfield 41, 3) := by decide +kernel
theorem dX11_looksUp_35 : decode cX11_looksUp 35 = .ok (.aload_n 0, 1) := by decide +kernel
theorem dX11_looksUp_36 : decode cX11_looksUp 36 = .ok (.getfield 96, 3) := by decide +kernel
theorem dX11_looksUp_39 : decode cX11_looksUp 39 = .ok (.aload_n 0, 1) := by decide +kernel
theorem dX11_looksUp_40 : decode cX11_looksUp 40 = .ok (.getfield 89, 3) := by decide +kernel
theorem dX11_looksUp_43 : decode cX11_looksUp 43 = .ok (.invokestatic 143, 3) := by decide +kernel
theorem dX11_looksUp_46 : decode cX11_looksUp 46 = .ok (.ireturn, 1) := by decide +kernel
theorem dX11_once_0 : decode cX11_once 0 = .ok (.aload_n 0, 1) := by decide +kernel
theorem dX11_once_1 : decode cX11_once 1 = .ok (.getfield 147, 3) := by decide +kernel
theorem dX11_once_4 : decode cX11_once 4 = .ok (.iload_n 1, 1) := by decide +kernel
theorem dX11_once_5 : decode cX11_once 5 = .ok (.ishr, 1) := by decide +kernel
theorem dX11_once_6 : decode cX11_once 6 = .ok (.iconst 1, 1) := by decide +kernel
theorem dX11_once_7 : decode cX11_once 7 = .ok (.iand, 1) := by decide +kernel
theorem dX11_once_8 : decode cX11_once 8 = .ok (.iconst 1, 1) := by decide +kernel
theorem dX11_once_9 : decode cX11_once 9 = .ok (.if_icmp .ne 8, 3) := by decide +kernel
theorem dX11_once_12 : decode cX11_once 12 = .ok (.aload_n 0, 1) := by decide +kernel
theorem dX11_once_13 : decode cX11_once 13 = .ok (.iconst 5, 1) := by decide +kernel
theorem dX11_once_14 : decode cX11_once 14 = .ok (.invokevirtual 126, 3) := by decide +kernel
theorem dX11_once_17 : decode cX11_once 17 = .ok (.aload_n 0, 1) := by decide +kernel
theorem dX11_once_18 : decode cX11_once 18 = .ok (.invokevirtual 112, 3) := by decide +kernel
theorem dX11_once_21 : decode cX11_once 21 = .ok (.ifCond .eq 4, 3) := by decide +kernel
theorem dX11_once_24 : decode cX11_once 24 = .ok (.return_, 1) := by decide +kernel
theorem dX11_once_25 : decode cX11_once 25 = .ok (.aload_n 0, 1) := by decide +kernel
theorem dX11_once_26 : decode cX11_once 26 = .ok (.dup, 1) := by decide +kernel
theorem dX11_once_27 : decode cX11_once 27 = .ok (.getfield 147, 3) := by decide +kernel
theorem dX11_once_30 : decode cX11_once 30 = .ok (.iconst 1, 1) := by decide +kernel
theorem dX11_once_31 : decode cX11_once 31 = .ok (.iload_n 1, 1) := by decide +kernel
theorem dX11_once_32 : decode cX11_once 32 = .ok (.ishl, 1) := by decide +kernel
theorem dX11_once_33 : decode cX11_once 33 = .ok (.ior, 1) := by decide +kernel
theorem dX11_once_34 : decode cX11_once 34 = .ok (.putfield 147, 3) := by decide +kernel
theorem dX11_once_37 : decode cX11_once 37 = .ok (.aload_n 0, 1) := by decide +kernel
theorem dX11_once_38 : decode cX11_once 38 = .ok (.invokevirtual 130, 3) := by decide +kernel
theorem dX11_once_41 : decode cX11_once 41 = .ok (.return_, 1) := by decide +kernel
theorem dX11_at_0 : decode cX11_at 0 = .ok (.bipush 51, 2) := by decide +kernel
theorem dX11_at_2 : decode cX11_at 2 = .ok (.bipush 12, 2) := by decide +kernel
theorem dX11_at_4 : decode cX11_at 4 = .ok (.iload_n 0, 1) := by decide +kernel
theorem dX11_at_5 : decode cX11_at 5 = .ok (.imul, 1) := by decide +kernel
theorem dX11_at_6 : decode cX11_at 6 = .ok (.iadd, 1) := by decide +kernel
theorem dX11_at_7 : decode cX11_at 7 = .ok (.iload_n 1, 1) := by decide +kernel
theorem dX11_at_8 : decode cX11_at 8 = .ok (.iadd, 1) := by decide +kernel
theorem dX11_at_9 : decode cX11_at 9 = .ok (.ireturn, 1) := by decide +kernel
theorem dX11_outletLine_0 : decode cX11_outletLine 0 = .ok (.aload_n 0, 1) := by decide +kernel
theorem dX11_outletLine_1 : decode cX11_outletLine 1 = .ok (.getfield 140, 3) := by decide +kernel
theorem dX11_outletLine_4 : decode cX11_outletLine 4 = .ok (.bipush 12, 2) := by decide +kernel
theorem dX11_outletLine_6 : decode cX11_outletLine 6 = .ok (.if_icmp .ne 8, 3) := by decide +kernel
theorem dX11_outletLine_9 : decode cX11_outletLine 9 = .ok (.aload_n 0, 1) := by decide +kernel
theorem dX11_outletLine_10 : decode cX11_outletLine 10 = .ok (.iconst 5, 1) := by decide +kernel
theorem dX11_outletLine_11 : decode cX11_outletLine 11 = .ok (.invokevirtual 126, 3) := by decide +kernel
theorem dX11_outletLine_14 : decode cX11_outletLine 14 = .ok (.aload_n 0, 1) := by decide +kernel
theorem dX11_outletLine_15 : decode cX11_outletLine 15 = .ok (.invokevirtual 112, 3) := by decide +kernel
theorem dX11_outletLine_18 : decode cX11_outletLine 18 = .ok (.ifCond .eq 4, 3) := by decide +kernel
theorem dX11_outletLine_21 : decode cX11_outletLine 21 = .ok (.return_, 1) := by decide +kernel
theorem dX11_outletLine_22 : decode cX11_outletLine 22 = .ok (.aload_n 0, 1) := by decide +kernel
theorem dX11_outletLine_23 : decode cX11_outletLine 23 = .ok (.invokevirtual 130, 3) := by decide +kernel
theorem dX11_outletLine_26 : decode cX11_outletLine 26 = .ok (.aload_n 0, 1) := by decide +kernel
theorem dX11_outletLine_27 : decode cX11_outletLine 27 = .ok (.invokevirtual 150, 3) := by decide +kernel
theorem dX11_outletLine_30 : decode cX11_outletLine 30 = .ok (.istore_n 1, 1) := by decide +kernel
theorem dX11_outletLine_31 : decode cX11_outletLine 31 = .ok (.aload_n 0, 1) := by decide +kernel
theorem dX11_outletLine_32 : decode cX11_outletLine 32 = .ok (.invokevirtual 112, 3) := by decide +kernel
theorem dX11_outletLine_35 : decode cX11_outletLine 35 = .ok (.ifCond .ne 13, 3) := by decide +kernel
theorem dX11_outletLine_38 : decode cX11_outletLine 38 = .ok (.iload_n 1, 1) := by decide +kernel
theorem dX11_outletLine_39 : decode cX11_outletLine 39 = .ok (.iconst (-1), 1) := by decide +kernel
theorem dX11_outletLine_40 : decode cX11_outletLine 40 = .ok (.if_icmp .eq 8, 3) := by decide +kernel
theorem dX11_outletLine_43 : decode cX11_outletLine 43 = .ok (.aload_n 0, 1) := by decide +kernel
theorem dX11_outletLine_44 : decode cX11_outletLine 44 = .ok (.iconst 3, 1) := by decide +kernel
theorem dX11_outletLine_45 : decode cX11_outletLine 45 = .ok (.invokevirtual 126, 3) := by decide +kernel
theorem dX11_outletLine_48 : decode cX11_outletLine 48 = .ok (.aload_n 0, 1) := by decide +kernel
theorem dX11_outletLine_49 : decode cX11_outletLine 49 = .ok (.invokevirtual 112, 3) := by decide +kernel
theorem dX11_outletLine_52 : decode cX11_outletLine 52 = .ok (.ifCond .eq 4, 3) := by decide +kernel
theorem dX11_outletLine_55 : decode cX11_outletLine 55 = .ok (.return_, 1) := by decide +kernel
theorem dX11_outletLine_56 : decode cX11_outletLine 56 = .ok (.iconst 0, 1) := by decide +kernel
theorem dX11_outletLine_57 : decode cX11_outletLine 57 = .ok (.istore_n 2, 1) := by decide +kernel
theorem dX11_outletLine_58 : decode cX11_outletLine 58 = .ok (.iload_n 2, 1) := by decide +kernel
theorem dX11_outletLine_59 : decode cX11_outletLine 59 = .ok (.bipush 8, 2) := by decide +kernel
theorem dX11_outletLine_61 : decode cX11_outletLine 61 = .ok (.if_icmp .ge 51, 3) := by decide +kernel
theorem dX11_outletLine_64 : decode cX11_outletLine 64 = .ok (.aload_n 0, 1) := by decide +kernel
theorem dX11_outletLine_65 : decode cX11_outletLine 65 = .ok (.getfield 59, 3) := by decide +kernel
theorem dX11_outletLine_68 : decode cX11_outletLine 68 = .ok (.bipush 8, 2) := by decide +kernel
theorem dX11_outletLine_70 : decode cX11_outletLine 70 = .ok (.aload_n 0, 1) := by decide +kernel
theorem dX11_outletLine_71 : decode cX11_outletLine 71 = .ok (.getfield 140, 3) := by decide +kernel
theorem dX11_outletLine_74 : decode cX11_outletLine 74 = .ok (.imul, 1) := by decide +kernel
theorem dX11_outletLine_75 : decode cX11_outletLine 75 = .ok (.iload_n 2, 1) := by decide +kernel
theorem dX11_outletLine_76 : decode cX11_outletLine 76 = .ok (.iadd, 1) := by decide +kernel
theorem dX11_outletLine_77 : decode cX11_outletLine 77 = .ok (.aload_n 0, 1) := by decide +kernel
theorem dX11_outletLine_78 : decode cX11_outletLine 78 = .ok (.getfield 96, 3) := by decide +kernel
theorem dX11_outletLine_81 : decode cX11_outletLine 81 = .ok (.iload_n 2, 1) := by decide +kernel
theorem dX11_outletLine_82 : decode cX11_outletLine 82 = .ok (.iadd, 1) := by decide +kernel
theorem dX11_outletLine_83 : decode cX11_outletLine 83 = .ok (.aload_n 0, 1) := by decide +kernel
theorem dX11_outletLine_84 : decode cX11_outletLine 84 = .ok (.getfield 89, 3) := by decide +kernel
theorem dX11_outletLine_87 : decode cX11_outletLine 87 = .ok (.if_icmp .ge 17, 3) := by decide +kernel
theorem dX11_outletLine_90 : decode cX11_outletLine 90 = .ok (.aload_n 0, 1) := by decide +kernel
theorem dX11_outletLine_91 : decode cX11_outletLine 91 = .ok (.getfield 41, 3) := by decide +kernel
theorem dX11_outletLine_94 : decode cX11_outletLine 94 = .ok (.aload_n 0, 1) := by decide +kernel
theorem dX11_outletLine_95 : decode cX11_outletLine 95 = .ok (.getfield 96, 3) := by decide +kernel
theorem dX11_outletLine_98 : decode cX11_outletLine 98 = .ok (.iload_n 2, 1) := by decide +kernel
theorem dX11_outletLine_99 : decode cX11_outletLine 99 = .ok (.iadd, 1) := by decide +kernel
theorem dX11_outletLine_100 : decode cX11_outletLine 100 = .ok (.iaload, 1) := by decide +kernel
theorem dX11_outletLine_101 : decode cX11_outletLine 101 = .ok (.goto 4, 3) := by decide +kernel
theorem dX11_outletLine_104 : decode cX11_outletLine 104 = .ok (.iconst 0, 1) := by decide +kernel
theorem dX11_outletLine_105 : decode cX11_outletLine 105 = .ok (.iastore, 1) := by decide +kernel
theorem dX11_outletLine_106 : decode cX11_outletLine 106 = .ok (.iinc 2 1, 3) := by decide +kernel
theorem dX11_outletLine_109 : decode cX11_outletLine 109 = .ok (.goto (-51), 3) := by decide +kernel
theorem dX11_outletLine_112 : decode cX11_outletLine 112 = .ok (.aload_n 0, 1) := by decide +kernel
theorem dX11_outletLine_113 : decode cX11_outletLine 113 = .ok (.invokevirtual 130, 3) := by decide +kernel
theorem dX11_outletLine_116 : decode cX11_outletLine 116 = .ok (.iconst 4, 1) := by decide +kernel
theorem dX11_outletLine_117 : decode cX11_outletLine 117 = .ok (.aload_n 0, 1) := by decide +kernel
theorem dX11_outletLine_118 : decode cX11_outletLine 118 = .ok (.getfield 140, 3) := by decide +kernel
theorem dX11_outletLine_121 : decode cX11_outletLine 121 = .ok (.imul, 1) := by decide +kernel
theorem dX11_outletLine_122 : decode cX11_outletLine 122 = .ok (.istore_n 2, 1) := by decide +kernel
theorem dX11_outletLine_123 : decode cX11_outletLine 123 = .ok (.aload_n 0, 1) := by decide +kernel
theorem dX11_outletLine_124 : decode cX11_outletLine 124 = .ok (.getfield 47, 3) := by decide +kernel
theorem dX11_outletLine_127 : decode cX11_outletLine 127 = .ok (.iload_n 2, 1) := by decide +kernel
theorem dX11_outletLine_128 : decode cX11_outletLine 128 = .ok (.aload_n 0, 1) := by decide +kernel
theorem dX11_outletLine_129 : decode cX11_outletLine 129 = .ok (.iconst 0, 1) := by decide +kernel
theorem dX11_outletLine_130 : decode cX11_outletLine 130 = .ok (.sipush 999, 3) := by decide +kernel
theorem dX11_outletLine_133 : decode cX11_outletLine 133 = .ok (.invokevirtual 153, 3) := by decide +kernel
theorem dX11_outletLine_136 : decode cX11_outletLine 136 = .ok (.iastore, 1) := by decide +kernel
theorem dX11_outletLine_137 : decode cX11_outletLine 137 = .ok (.aload_n 0, 1) := by decide +kernel
theorem dX11_outletLine_138 : decode cX11_outletLine 138 = .ok (.getfield 47, 3) := by decide +kernel
theorem dX11_outletLine_141 : decode cX11_outletLine 141 = .ok (.iload_n 2, 1) := by decide +kernel
theorem dX11_outletLine_142 : decode cX11_outletLine 142 = .ok (.iconst 1, 1) := by decide +kernel
theorem dX11_outletLine_143 : decode cX11_outletLine 143 = .ok (.iadd, 1) := by decide +kernel
theorem dX11_outletLine_144 : decode cX11_outletLine 144 = .ok (.aload_n 0, 1) := by decide +kernel
theorem dX11_outletLine_145 : decode cX11_outletLine 145 = .ok (.aload_n 0, 1) := by decide +kernel
theorem dX11_outletLine_146 : decode cX11_outletLine 146 = .ok (.getfield 47, 3) := by decide +kernel
theorem dX11_outletLine_149 : decode cX11_outletLine 149 = .ok (.iload_n 2, 1) := by decide +kernel
theorem dX11_outletLine_150 : decode cX11_outletLine 150 = .ok (.iaload, 1) := by decide +kernel
theorem dX11_outletLine_151 : decode cX11_outletLine 151 = .ok (.sipush 1999, 3) := by decide +kernel
theorem dX11_outletLine_154 : decode cX11_outletLine 154 = .ok (.invokevirtual 153, 3) := by decide +kernel
theorem dX11_outletLine_157 : decode cX11_outletLine 157 = .ok (.iastore, 1) := by decide +kernel
theorem dX11_outletLine_158 : decode cX11_outletLine 158 = .ok (.aload_n 0, 1) := by decide +kernel
theorem dX11_outletLine_159 : decode cX11_outletLine 159 = .ok (.getfield 47, 3) := by decide +kernel
theorem dX11_outletLine_162 : decode cX11_outletLine 162 = .ok (.iload_n 2, 1) := by decide +kernel
theorem dX11_outletLine_163 : decode cX11_outletLine 163 = .ok (.iconst 2, 1) := by decide +kernel
theorem dX11_outletLine_164 : decode cX11_outletLine 164 = .ok (.iadd, 1) := by decide +kernel
theorem dX11_outletLine_165 : decode cX11_outletLine 165 = .ok (.aload_n 0, 1) := by decide +kernel
theorem dX11_outletLine_166 : decode cX11_outletLine 166 = .ok (.aload_n 0, 1) := by decide +kernel
theorem dX11_outletLine_167 : decode cX11_outletLine 167 = .ok (.getfield 47, 3) := by decide +kernel
theorem dX11_outletLine_170 : decode cX11_outletLine 170 = .ok (.iload_n 2, 1) := by decide +kernel
theorem dX11_outletLine_171 : decode cX11_outletLine 171 = .ok (.iaload, 1) := by decide +kernel
theorem dX11_outletLine_172 : decode cX11_outletLine 172 = .ok (.aload_n 0, 1) := by decide +kernel
theorem dX11_outletLine_173 : decode cX11_outletLine 173 = .ok (.getfield 47, 3) := by decide +kernel
theorem dX11_outletLine_176 : decode cX11_outletLine 176 = .ok (.iload_n 2, 1) := by decide +kernel
theorem dX11_outletLine_177 : decode cX11_outletLine 177 = .ok (.iconst 1, 1) := by decide +kernel
theorem dX11_outletLine_178 : decode cX11_outletLine 178 = .ok (.iadd, 1) := by decide +kernel
theorem dX11_outletLine_179 : decode cX11_outletLine 179 = .ok (.iaload, 1) := by decide +kernel
theorem dX11_outletLine_180 : decode cX11_outletLine 180 = .ok (.invokevirtual 153, 3) := by decide +kernel
theorem dX11_outletLine_183 : decode cX11_outletLine 183 = .ok (.iastore, 1) := by decide +kernel
theorem dX11_outletLine_184 : decode cX11_outletLine 184 = .ok (.aload_n 0, 1) := by decide +kernel
theorem dX11_outletLine_185 : decode cX11_outletLine 185 = .ok (.getfield 47, 3) := by decide +kernel
theorem dX11_outletLine_188 : decode cX11_outletLine 188 = .ok (.iload_n 2, 1) := by decide +kernel
theorem dX11_outletLine_189 : decode cX11_outletLine 189 = .ok (.iconst 3, 1) := by decide +kernel
theorem dX11_outletLine_190 : decode cX11_outletLine 190 = .ok (.iadd, 1) := by decide +kernel
theorem dX11_outletLine_191 : decode cX11_outletLine 191 = .ok (.aload_n 0, 1) := by decide +kernel
theorem dX11_outletLine_192 : decode cX11_outletLine 192 = .ok (.iconst 1, 1) := by decide +kernel
theorem dX11_outletLine_193 : decode cX11_outletLine 193 = .ok (.bipush 20, 2) := by decide +kernel
theorem dX11_outletLine_195 : decode cX11_outletLine 195 = .ok (.invokevirtual 153, 3) := by decide +kernel
theorem dX11_outletLine_198 : decode cX11_outletLine 198 = .ok (.iastore, 1) := by decide +kernel
theorem dX11_outletLine_199 : decode cX11_outletLine 199 = .ok (.aload_n 0, 1) := by decide +kernel
theorem dX11_outletLine_200 : decode cX11_outletLine 200 = .ok (.getfield 44, 3) := by decide +kernel
theorem dX11_outletLine_203 : decode cX11_outletLine 203 = .ok (.aload_n 0, 1) := by decide +kernel
theorem dX11_outletLine_204 : decode cX11_outletLine 204 = .ok (.getfield 140, 3) := by decide +kernel
theorem dX11_outletLine_207 : decode cX11_outletLine 207 = .ok (.iconst 0, 1) := by decide +kernel
theorem dX11_outletLine_208 : decode cX11_outletLine 208 = .ok (.invokestatic 157, 3) := by decide +kernel
theorem dX11_outletLine_211 : decode cX11_outletLine 211 = .ok (.aload_n 0, 1) := by decide +kernel
theorem dX11_outletLine_212 : decode cX11_outletLine 212 = .ok (.iconst 0, 1) := by decide +kernel
theorem dX11_outletLine_213 : decode cX11_outletLine 213 = .ok (.bipush 9, 2) := by decide +kernel
theorem dX11_outletLine_215 : decode cX11_outletLine 215 = .ok (.invokevirtual 153, 3) := by decide +kernel
theorem dX11_outletLine_218 : decode cX11_outletLine 218 = .ok (.iastore, 1) := by decide +kernel
theorem dX11_outletLine_219 : decode cX11_outletLine 219 = .ok (.aload_n 0, 1) := by decide +kernel
theorem dX11_outletLine_220 : decode cX11_outletLine 220 = .ok (.invokevirtual 160, 3) := by decide +kernel
theorem dX11_outletLine_223 : decode cX11_outletLine 223 = .ok (.aload_n 0, 1) := by decide +kernel
theorem dX11_outletLine_224 : decode cX11_outletLine 224 = .ok (.getfield 44, 3) := by decide +kernel
theorem dX11_outletLine_227 : decode cX11_outletLine 227 = .ok (.aload_n 0, 1) := by decide +kernel
theorem dX11_outletLine_228 : decode cX11_outletLine 228 = .ok (.getfield 140, 3) := by decide +kernel
theorem dX11_outletLine_231 : decode cX11_outletLine 231 = .ok (.iconst 1, 1) := by decide +kernel
theorem dX11_outletLine_232 : decode cX11_outletLine 232 = .ok (.invokestatic 157, 3) := by decide +kernel
theorem dX11_outletLine_235 : decode cX11_outletLine 235 = .ok (.iconst 1, 1) := by decide +kernel
theorem dX11_outletLine_236 : decode cX11_outletLine 236 = .ok (.iastore, 1) := by decide +kernel
theorem dX11_outletLine_237 : decode cX11_outletLine 237 = .ok (.aload_n 0, 1) := by decide +kernel
theorem dX11_outletLine_238 : decode cX11_outletLine 238 = .ok (.getfield 50, 3) := by decide +kernel
theorem dX11_outletLine_241 : decode cX11_outletLine 241 = .ok (.aload_n 0, 1) := by decide +kernel
theorem dX11_outletLine_242 : decode cX11_outletLine 242 = .ok (.getfield 140, 3) := by decide +kernel
theorem dX11_outletLine_245 : decode cX11_outletLine 245 = .ok (.iconst 0, 1) := by decide +kernel
theorem dX11_outletLine_246 : decode cX11_outletLine 246 = .ok (.iastore, 1) := by decide +kernel
theorem dX11_outletLine_247 : decode cX11_outletLine 247 = .ok (.aload_n 0, 1) := by decide +kernel
theorem dX11_outletLine_248 : decode cX11_outletLine 248 = .ok (.dup, 1) := by decide +kernel
theorem dX11_outletLine_249 : decode cX11_outletLine 249 = .ok (.getfield 140, 3) := by decide +kernel
theorem dX11_outletLine_252 : decode cX11_outletLine 252 = .ok (.iconst 1, 1) := by decide +kernel
theorem dX11_outletLine_253 : decode cX11_outletLine 253 = .ok (.iadd, 1) := by decide +kernel
theorem dX11_outletLine_254 : decode cX11_outletLine 254 = .ok (.putfield 140, 3) := by decide +kernel
theorem dX11_outletLine_257 : decode cX11_outletLine 257 = .ok (.return_, 1) := by decide +kernel
theorem dX11_needLine_0 : decode cX11_needLine 0 = .ok (.aload_n 0, 1) := by decide +kernel
theorem dX11_needLine_1 : decode cX11_needLine 1 = .ok (.getfield 163, 3) := by decide +kernel
theorem dX11_needLine_4 : decode cX11_needLine 4 = .ok (.bipush 16, 2) := by decide +kernel
theorem dX11_needLine_6 : decode cX11_needLine 6 = .ok (.if_icmp .ne 8, 3) := by decide +kernel
theorem dX11_needLine_9 : decode cX11_needLine 9 = .ok (.aload_n 0, 1) := by decide +kernel
theorem dX11_needLine_10 : decode cX11_needLine 10 = .ok (.iconst 5, 1) := by decide +kernel
theorem dX11_needLine_11 : decode cX11_needLine 11 = .ok (.invokevirtual 126, 3) := by decide +kernel
theorem dX11_needLine_14 : decode cX11_needLine 14 = .ok (.aload_n 0, 1) := by decide +kernel
theorem dX11_needLine_15 : decode cX11_needLine 15 = .ok (.invokevirtual 112, 3) := by decide +kernel
theorem dX11_needLine_18 : decode cX11_needLine 18 = .ok (.ifCond .eq 4, 3) := by decide +kernel
theorem dX11_needLine_21 : decode cX11_needLine 21 = .ok (.return_, 1) := by decide +kernel
theorem dX11_needLine_22 : decode cX11_needLine 22 = .ok (.aload_n 0, 1) := by decide +kernel
theorem dX11_needLine_23 : decode cX11_needLine 23 = .ok (.invokevirtual 130, 3) := by decide +kernel
theorem dX11_needLine_26 : decode cX11_needLine 26 = .ok (.aload_n 0, 1) := by decide +kernel
theorem dX11_needLine_27 : decode cX11_needLine 27 = .ok (.invokevirtual 150, 3) := by decide +kernel
theorem dX11_needLine_30 : decode cX11_needLine 30 = .ok (.istore_n 1, 1) := by decide +kernel
theorem dX11_needLine_31 : decode cX11_needLine 31 = .ok (.aload_n 0, 1) := by decide +kernel
theorem dX11_needLine_32 : decode cX11_needLine 32 = .ok (.invokevirtual 112, 3) := by decide +kernel
theorem dX11_needLine_35 : decode cX11_needLine 35 = .ok (.ifCond .ne 13, 3) := by decide +kernel
theorem dX11_needLine_38 : decode cX11_needLine 38 = .ok (.iload_n 1, 1) := by decide +kernel
theorem dX11_needLine_39 : decode cX11_needLine 39 = .ok (.iconst (-1), 1) := by decide +kernel
theorem dX11_needLine_40 : decode cX11_needLine 40 = .ok (.if_icmp .ne 8, 3) := by decide +kernel
theorem dX11_needLine_43 : decode cX11_needLine 43 = .ok (.aload_n 0, 1) := by decide +kernel
theorem dX11_needLine_44 : decode cX11_needLine 44 = .ok (.iconst 4, 1) := by decide +kernel
theorem dX11_needLine_45 : decode cX11_needLine 45 = .ok (.invokevirtual 126, 3) := by decide +kernel
theorem dX11_needLine_48 : decode cX11_needLine 48 = .ok (.aload_n 0, 1) := by decide +kernel
theorem dX11_needLine_49 : decode cX11_needLine 49 = .ok (.invokevirtual 112, 3) := by decide +kernel
theorem dX11_needLine_52 : decode cX11_needLine 52 = .ok (.ifCond .ne 7, 3) := by decide +kernel
theorem dX11_needLine_55 : decode cX11_needLine 55 = .ok (.aload_n 0, 1) := by decide +kernel
theorem dX11_needLine_56 : decode cX11_needLine 56 = .ok (.invokevirtual 130, 3) := by decide +kernel
theorem dX11_needLine_59 : decode cX11_needLine 59 = .ok (.aload_n 0, 1) := by decide +kernel
theorem dX11_needLine_60 : decode cX11_needLine 60 = .ok (.invokevirtual 150, 3) := by decide +kernel
theorem dX11_needLine_63 : decode cX11_needLine 63 = .ok (.istore_n 2, 1) := by decide +kernel
theorem dX11_needLine_64 : decode cX11_needLine 64 = .ok (.aload_n 0, 1) := by decide +kernel
theorem dX11_needLine_65 : decode cX11_needLine 65 = .ok (.invokevirtual 112, 3) := by decide +kernel
theorem dX11_needLine_68 : decode cX11_needLine 68 = .ok (.ifCond .eq 4, 3) := by decide +kernel
theorem dX11_needLine_71 : decode cX11_needLine 71 = .ok (.return_, 1) := by decide +kernel
theorem dX11_needLine_72 : decode cX11_needLine 72 = .ok (.iload_n 2, 1) := by decide +kernel
theorem dX11_needLine_73 : decode cX11_needLine 73 = .ok (.iconst (-1), 1) := by decide +kernel
theorem dX11_needLine_74 : decode cX11_needLine 74 = .ok (.if_icmp .ne 11, 3) := by decide +kernel
theorem dX11_needLine_77 : decode cX11_needLine 77 = .ok (.aload_n 0, 1) := by decide +kernel
theorem dX11_needLine_78 : decode cX11_needLine 78 = .ok (.iconst 4, 1) := by decide +kernel
theorem dX11_needLine_79 : decode cX11_needLine 79 = .ok (.invokevirtual 126, 3) := by decide +kernel
theorem dX11_needLine_82 : decode cX11_needLine 82 = .ok (.goto 27, 3) := by decide +kernel
theorem dX11_needLine_85 : decode cX11_needLine 85 = .ok (.iload_n 1, 1) := by decide +kernel
theorem dX11_needLine_86 : decode cX11_needLine 86 = .ok (.iload_n 2, 1) := by decide +kernel
theorem dX11_needLine_87 : decode cX11_needLine 87 = .ok (.if_icmp .eq 17, 3) := by decide +kernel
theorem dX11_needLine_90 : decode cX11_needLine 90 = .ok (.aload_n 0, 1) := by decide +kernel
theorem dX11_needLine_91 : decode cX11_needLine 91 = .ok (.getfield 50, 3) := by decide +kernel
theorem dX11_needLine_94 : decode cX11_needLine 94 = .ok (.iload_n 1, 1) := by decide +kernel
theorem dX11_needLine_95 : decode cX11_needLine 95 = .ok (.iaload, 1) := by decide +kernel
theorem dX11_needLine_96 : decode cX11_needLine 96 = .ok (.iload_n 2, 1) := by decide +kernel
theorem dX11_needLine_97 : decode cX11_needLine 97 = .ok (.ishr, 1) := by decide +kernel
theorem dX11_needLine_98 : decode cX11_needLine 98 = .ok (.iconst 1, 1) := by decide +kernel
theorem dX11_needLine_99 : decode cX11_needLine 99 = .ok (.iand, 1) := by decide +kernel
theorem dX11_needLine_100 : decode cX11_needLine 100 = .ok (.iconst 1, 1) := by decide +kernel
theorem dX11_needLine_101 : decode cX11_needLine 101 = .ok (.if_icmp .ne 8, 3) := by decide +kernel
theorem dX11_needLine_104 : decode cX11_needLine 104 = .ok (.aload_n 0, 1) := by decide +kernel
theorem dX11_needLine_105 : decode cX11_needLine 105 = .ok (.iconst 3, 1) := by decide +kernel
theorem dX11_needLine_106 : decode cX11_needLine 106 = .ok (.invokevirtual 126, 3) := by decide +kernel
theorem dX11_needLine_109 : decode cX11_needLine 109 = .ok (.aload_n 0, 1) := by decide +kernel
theorem dX11_needLine_110 : decode cX11_needLine 110 = .ok (.invokevirtual 112, 3) := by decide +kernel
theorem dX11_needLine_113 : decode cX11_needLine 113 = .ok (.ifCond .eq 4, 3) := by decide +kernel
theorem dX11_needLine_116 : decode cX11_needLine 116 = .ok (.return_, 1) := by decide +kernel
theorem dX11_needLine_117 : decode cX11_needLine 117 = .ok (.aload_n 0, 1) := by decide +kernel
theorem dX11_needLine_118 : decode cX11_needLine 118 = .ok (.getfield 50, 3) := by decide +kernel
theorem dX11_needLine_121 : decode cX11_needLine 121 = .ok (.iload_n 1, 1) := by decide +kernel
theorem dX11_needLine_122 : decode cX11_needLine 122 = .ok (.dup2, 1) := by decide +kernel
theorem dX11_needLine_123 : decode cX11_needLine 123 = .ok (.iaload, 1) := by decide +kernel
theorem dX11_needLine_124 : decode cX11_needLine 124 = .ok (.iconst 1, 1) := by decide +kernel
theorem dX11_needLine_125 : decode cX11_needLine 125 = .ok (.iload_n 2, 1) := by decide +kernel
theorem dX11_needLine_126 : decode cX11_needLine 126 = .ok (.ishl, 1) := by decide +kernel
theorem dX11_needLine_127 : decode cX11_needLine 127 = .ok (.ior, 1) := by decide +kernel
theorem dX11_needLine_128 : decode cX11_needLine 128 = .ok (.iastore, 1) := by decide +kernel
theorem dX11_needLine_129 : decode cX11_needLine 129 = .ok (.aload_n 0, 1) := by decide +kernel
theorem dX11_needLine_130 : decode cX11_needLine 130 = .ok (.dup, 1) := by decide +kernel
theorem dX11_needLine_131 : decode cX11_needLine 131 = .ok (.getfield 163, 3) := by decide +kernel
theorem dX11_needLine_134 : decode cX11_needLine 134 = .ok (.iconst 1, 1) := by decide +kernel
theorem dX11_needLine_135 : decode cX11_needLine 135 = .ok (.iadd, 1) := by decide +kernel
theorem dX11_needLine_136 : decode cX11_needLine 136 = .ok (.putfield 163, 3) := by decide +kernel
theorem dX11_needLine_139 : decode cX11_needLine 139 = .ok (.aload_n 0, 1) := by decide +kernel
theorem dX11_needLine_140 : decode cX11_needLine 140 = .ok (.invokevirtual 130, 3) := by decide +kernel
theorem dX11_needLine_143 : decode cX11_needLine 143 = .ok (.aload_n 0, 1) := by decide +kernel
theorem dX11_needLine_144 : decode cX11_needLine 144 = .ok (.invokevirtual 160, 3) := by decide +kernel
theorem dX11_needLine_147 : decode cX11_needLine 147 = .ok (.return_, 1) := by decide +kernel
theorem dX11_scriptHere_0 : decode cX11_scriptHere 0 = .ok (.aload_n 0, 1) := by decide +kernel
theorem dX11_scriptHere_1 : decode cX11_scriptHere 1 = .ok (.invokevirtual 112, 3) := by decide +kernel
theorem dX11_scriptHere_4 : decode cX11_scriptHere 4 = .ok (.ifCond .ne 29, 3) := by decide +kernel
theorem dX11_scriptHere_7 : decode cX11_scriptHere 7 = .ok (.aload_n 0, 1) := by decide +kernel
theorem dX11_scriptHere_8 : decode cX11_scriptHere 8 = .ok (.getfield 99, 3) := by decide +kernel
theorem dX11_scriptHere_11 : decode cX11_scriptHere 11 = .ok (.iconst 2, 1) := by decide +kernel
theorem dX11_scriptHere_12 : decode cX11_scriptHere 12 = .ok (.if_icmp .ne 21, 3) := by decide +kernel
theorem dX11_scriptHere_15 : decode cX11_scriptHere 15 = .ok (.aload_n 0, 1) := by decide +kernel
theorem dX11_scriptHere_16 : decode cX11_scriptHere 16 = .ok (.getfield 89, 3) := by decide +kernel
theorem dX11_scriptHere_19 : decode cX11_scriptHere 19 = .ok (.aload_n 0, 1) := by decide +kernel
theorem dX11_scriptHere_20 : decode cX11_scriptHere 20 = .ok (.getfield 96, 3) := by decide +kernel
theorem dX11_scriptHere_23 : decode cX11_scriptHere 23 = .ok (.isub, 1) := by decide +kernel
theorem dX11_scriptHere_24 : decode cX11_scriptHere 24 = .ok (.bipush 24, 2) := by decide +kernel
theorem dX11_scriptHere_26 : decode cX11_scriptHere 26 = .ok (.if_icmp .gt 7, 3) := by decide +kernel
theorem dX11_scriptHere_29 : decode cX11_scriptHere 29 = .ok (.iconst 1, 1) := by decide +kernel
theorem dX11_scriptHere_30 : decode cX11_scriptHere 30 = .ok (.goto 4, 3) := by decide +kernel
theorem dX11_scriptHere_33 : decode cX11_scriptHere 33 = .ok (.iconst 0, 1) := by decide +kernel
theorem dX11_scriptHere_34 : decode cX11_scriptHere 34 = .ok (.istore_n 1, 1) := by decide +kernel
theorem dX11_scriptHere_35 : decode cX11_scriptHere 35 = .ok (.aload_n 0, 1) := by decide +kernel
theorem dX11_scriptHere_36 : decode cX11_scriptHere 36 = .ok (.getfield 96, 3) := by decide +kernel
theorem dX11_scriptHere_39 : decode cX11_scriptHere 39 = .ok (.istore_n 2, 1) := by decide +kernel
theorem dX11_scriptHere_40 : decode cX11_scriptHere 40 = .ok (.iload_n 2, 1) := by decide +kernel
theorem dX11_scriptHere_41 : decode cX11_scriptHere 41 = .ok (.aload_n 0, 1) := by decide +kernel
theorem dX11_scriptHere_42 : decode cX11_scriptHere 42 = .ok (.getfield 89, 3) := by decide +kernel
theorem dX11_scriptHere_45 : decode cX11_scriptHere 45 = .ok (.if_icmp .ge 29, 3) := by decide +kernel
theorem dX11_scriptHere_48 : decode cX11_scriptHere 48 = .ok (.iload_n 1, 1) := by decide +kernel
theorem dX11_scriptHere_49 : decode cX11_scriptHere 49 = .ok (.ifCond .eq 25, 3) := by decide +kernel
theorem dX11_scriptHere_52 : decode cX11_scriptHere 52 = .ok (.aload_n 0, 1) := by decide +kernel
theorem dX11_scriptHere_53 : decode cX11_scriptHere 53 = .ok (.iload_n 2, 1) := by decide +kernel
theorem dX11_scriptHere_54 : decode cX11_scriptHere 54 = .ok (.invokevirtual 92, 3) := by decide +kernel
theorem dX11_scriptHere_57 : decode cX11_scriptHere 57 = .ok (.bipush 49, 2) := by decide +kernel
theorem dX11_scriptHere_59 : decode cX11_scriptHere 59 = .ok (.if_icmp .gt 7, 3) := by decide +kernel
theorem dX11_scriptHere_62 : decode cX11_scriptHere 62 = .ok (.iconst 1, 1) := by decide +kernel
theorem dX11_scriptHere_63 : decode cX11_scriptHere 63 = .ok (.goto 4, 3) := by decide +kernel
theorem dX11_scriptHere_66 : decode cX11_scriptHere 66 = .ok (.iconst 0, 1) := by decide +kernel
theorem dX11_scriptHere_67 : decode cX11_scriptHere 67 = .ok (.istore_n 1, 1) := by decide +kernel
theorem dX11_scriptHere_68 : decode cX11_scriptHere 68 = .ok (.iinc 2 1, 3) := by decide +kernel
theorem dX11_scriptHere_71 : decode cX11_scriptHere 71 = .ok (.goto (-31), 3) := by decide +kernel
theorem dX11_scriptHere_74 : decode cX11_scriptHere 74 = .ok (.iload_n 1, 1) := by decide +kernel
theorem dX11_scriptHere_75 : decode cX11_scriptHere 75 = .ok (.ifCond .ne 8, 3) := by decide +kernel
theorem dX11_scriptHere_78 : decode cX11_scriptHere 78 = .ok (.aload_n 0, 1) := by decide +kernel
theorem dX11_scriptHere_79 : decode cX11_scriptHere 79 = .ok (.iconst 1, 1) := by decide +kernel
theorem dX11_scriptHere_80 : decode cX11_scriptHere 80 = .ok (.invokevirtual 126, 3) := by decide +kernel
theorem dX11_scriptHere_83 : decode cX11_scriptHere 83 = .ok (.aload_n 0, 1) := by decide +kernel
theorem dX11_scriptHere_84 : decode cX11_scriptHere 84 = .ok (.invokevirtual 112, 3) := by decide +kernel
theorem dX11_scriptHere_87 : decode cX11_scriptHere 87 = .ok (.ifCond .eq 4, 3) := by decide +kernel
theorem dX11_scriptHere_90 : decode cX11_scriptHere 90 = .ok (.return_, 1) := by decide +kernel
theorem dX11_scriptHere_91 : decode cX11_scriptHere 91 = .ok (.aload_n 0, 1) := by decide +kernel
theorem dX11_scriptHere_92 : decode cX11_scriptHere 92 = .ok (.aload_n 0, 1) := by decide +kernel
theorem dX11_scriptHere_93 : decode cX11_scriptHere 93 = .ok (.getfield 89, 3) := by decide +kernel
theorem dX11_scriptHere_96 : decode cX11_scriptHere 96 = .ok (.aload_n 0, 1) := by decide +kernel
theorem dX11_scriptHere_97 : decode cX11_scriptHere 97 = .ok (.getfield 96, 3) := by decide +kernel
theorem dX11_scriptHere_100 : decode cX11_scriptHere 100 = .ok (.isub, 1) := by decide +kernel
theorem dX11_scriptHere_101 : decode cX11_scriptHere 101 = .ok (.putfield 166, 3) := by decide +kernel
theorem dX11_scriptHere_104 : decode cX11_scriptHere 104 = .ok (.iconst 0, 1) := by decide +kernel
theorem dX11_scriptHere_105 : decode cX11_scriptHere 105 = .ok (.istore_n 2, 1) := by decide +kernel
theorem dX11_scriptHere_106 : decode cX11_scriptHere 106 = .ok (.iload_n 2, 1) := by decide +kernel
theorem dX11_scriptHere_107 : decode cX11_scriptHere 107 = .ok (.aload_n 0, 1) := by decide +kernel
theorem dX11_scriptHere_108 : decode cX11_scriptHere 108 = .ok (.getfield 166, 3) := by decide +kernel
theorem dX11_scriptHere_111 : decode cX11_scriptHere 111 = .ok (.if_icmp .ge 28, 3) := by decide +kernel
theorem dX11_scriptHere_114 : decode cX11_scriptHere 114 = .ok (.aload_n 0, 1) := by decide +kernel
theorem dX11_scriptHere_115 : decode cX11_scriptHere 115 = .ok (.getfield 53, 3) := by decide +kernel
theorem dX11_scriptHere_118 : decode cX11_scriptHere 118 = .ok (.iload_n 2, 1) := by decide +kernel
theorem dX11_scriptHere_119 : decode cX11_scriptHere 119 = .ok (.aload_n 0, 1) := by decide +kernel
theorem dX11_scriptHere_120 : decode cX11_scriptHere 120 = .ok (.aload_n 0, 1) := by decide +kernel
theorem dX11_scriptHere_121 : decode cX11_scriptHere 121 = .ok (.getfield 96, 3) := by decide +kernel
theorem dX11_scriptHere_124 : decode cX11_scriptHere 124 = .ok (.iload_n 2, 1) := by decide +kernel
theorem dX11_scriptHere_125 : decode cX11_scriptHere 125 = .ok (.iadd, 1) := by decide +kernel
theorem dX11_scriptHere_126 : decode cX11_scriptHere 126 = .ok (.invokevirtual 92, 3) := by decide +kernel
theorem dX11_scriptHere_129 : decode cX11_scriptHere 129 = .ok (.bipush 48, 2) := by decide +kernel
theorem dX11_scriptHere_131 : decode cX11_scriptHere 131 = .ok (.isub, 1) := by decide +kernel
theorem dX11_scriptHere_132 : decode cX11_scriptHere 132 = .ok (.iastore, 1) := by decide +kernel
theorem dX11_scriptHere_133 : decode cX11_scriptHere 133 = .ok (.iinc 2 1, 3) := by decide +kernel
theorem dX11_scriptHere_136 : decode cX11_scriptHere 136 = .ok (.goto (-30), 3) := by decide +kernel
theorem dX11_scriptHere_139 : decode cX11_scriptHere 139 = .ok (.aload_n 0, 1) := by decide +kernel
theorem dX11_scriptHere_140 : decode cX11_scriptHere 140 = .ok (.invokevirtual 130, 3) := by decide +kernel
theorem dX11_scriptHere_143 : decode cX11_scriptHere 143 = .ok (.return_, 1) := by decide +kernel
theorem dX11_ruleLine_0 : decode cX11_ruleLine 0 = .ok (.aload_n 0, 1) := by decide +kernel
theorem dX11_ruleLine_1 : decode cX11_ruleLine 1 = .ok (.ldc 169, 2) := by decide +kernel
theorem dX11_ruleLine_3 : decode cX11_ruleLine 3 = .ok (.invokevirtual 171, 3) := by decide +kernel
theorem dX11_ruleLine_6 : decode cX11_ruleLine 6 = .ok (.ifCond .eq 15, 3) := by decide +kernel
theorem dX11_ruleLine_9 : decode cX11_ruleLine 9 = .ok (.aload_n 0, 1) := by decide +kernel
theorem dX11_ruleLine_10 : decode cX11_ruleLine 10 = .ok (.iconst 0, 1) := by decide +kernel
theorem dX11_ruleLine_11 : decode cX11_ruleLine 11 = .ok (.invokevirtual 175, 3) := by decide +kernel
theorem dX11_ruleLine_14 : decode cX11_ruleLine 14 = .ok (.aload_n 0, 1) := by decide +kernel
theorem dX11_ruleLine_15 : decode cX11_ruleLine 15 = .ok (.invokevirtual 178, 3) := by decide +kernel
theorem dX11_ruleLine_18 : decode cX11_ruleLine 18 = .ok (.goto 242, 3) := by decide +kernel
theorem dX11_ruleLine_21 : decode cX11_ruleLine 21 = .ok (.aload_n 0, 1) := by decide +kernel
theorem dX11_ruleLine_22 : decode cX11_ruleLine 22 = .ok (.ldc 181, 2) := by decide +kernel
theorem dX11_ruleLine_24 : decode cX11_ruleLine 24 = .ok (.invokevirtual 171, 3) := by decide +kernel
theorem dX11_ruleLine_27 : decode cX11_ruleLine 27 = .ok (.ifCond .eq 25, 3) := by decide +kernel
theorem dX11_ruleLine_30 : decode cX11_ruleLine 30 = .ok (.aload_n 0, 1) := by decide +kernel
theorem dX11_ruleLine_31 : decode cX11_ruleLine 31 = .ok (.iconst 1, 1) := by decide +kernel
theorem dX11_ruleLine_32 : decode cX11_ruleLine 32 = .ok (.invokevirtual 175, 3) := by decide +kernel
theorem dX11_ruleLine_35 : decode cX11_ruleLine 35 = .ok (.aload_n 0, 1) := by decide +kernel
theorem dX11_ruleLine_36 : decode cX11_ruleLine 36 = .ok (.getfield 44, 3) := by decide +kernel
theorem dX11_ruleLine_39 : decode cX11_ruleLine 39 = .ok (.bipush 7, 2) := by decide +kernel
theorem dX11_ruleLine_41 : decode cX11_ruleLine 41 = .ok (.aload_n 0, 1) := by decide +kernel
theorem dX11_ruleLine_42 : decode cX11_ruleLine 42 = .ok (.iconst 1, 1) := by decide +kernel
theorem dX11_ruleLine_43 : decode cX11_ruleLine 43 = .ok (.bipush 20, 2) := by decide +kernel
theorem dX11_ruleLine_45 : decode cX11_ruleLine 45 = .ok (.invokevirtual 153, 3) := by decide +kernel
theorem dX11_ruleLine_48 : decode cX11_ruleLine 48 = .ok (.iastore, 1) := by decide +kernel
theorem dX11_ruleLine_49 : decode cX11_ruleLine 49 = .ok (.goto 211, 3) := by decide +kernel
theorem dX11_ruleLine_52 : decode cX11_ruleLine 52 = .ok (.aload_n 0, 1) := by decide +kernel
theorem dX11_ruleLine_53 : decode cX11_ruleLine 53 = .ok (.ldc 183, 2) := by decide +kernel
theorem dX11_ruleLine_55 : decode cX11_ruleLine 55 = .ok (.invokevirtual 171, 3) := by decide +kernel
theorem dX11_ruleLine_58 : decode cX11_ruleLine 58 = .ok (.ifCond .eq 25, 3) := by decide +kernel
theorem dX11_ruleLine_61 : decode cX11_ruleLine 61 = .ok (.aload_n 0, 1) := by decide +kernel
theorem dX11_ruleLine_62 : decode cX11_ruleLine 62 = .ok (.iconst 2, 1) := by decide +kernel
theorem dX11_ruleLine_63 : decode cX11_ruleLine 63 = .ok (.invokevirtual 175, 3) := by decide +kernel
theorem dX11_ruleLine_66 : decode cX11_ruleLine 66 = .ok (.aload_n 0, 1) := by decide +kernel
theorem dX11_ruleLine_67 : decode cX11_ruleLine 67 = .ok (.getfield 44, 3) := by decide +kernel
theorem dX11_ruleLine_70 : decode cX11_ruleLine 70 = .ok (.bipush 8, 2) := by decide +kernel
theorem dX11_ruleLine_72 : decode cX11_ruleLine 72 = .ok (.aload_n 0, 1) := by decide +kernel
theorem dX11_ruleLine_73 : decode cX11_ruleLine 73 = .ok (.iconst 2, 1) := by decide +kernel
theorem dX11_ruleLine_74 : decode cX11_ruleLine 74 = .ok (.bipush 20, 2) := by decide +kernel
theorem dX11_ruleLine_76 : decode cX11_ruleLine 76 = .ok (.invokevirtual 153, 3) := by decide +kernel
theorem dX11_ruleLine_79 : decode cX11_ruleLine 79 = .ok (.iastore, 1) := by decide +kernel
theorem dX11_ruleLine_80 : decode cX11_ruleLine 80 = .ok (.goto 180, 3) := by decide +kernel
theorem dX11_ruleLine_83 : decode cX11_ruleLine 83 = .ok (.aload_n 0, 1) := by decide +kernel
theorem dX11_ruleLine_84 : decode cX11_ruleLine 84 = .ok (.ldc 185, 2) := by decide +kernel
theorem dX11_ruleLine_86 : decode cX11_ruleLine 86 = .ok (.invokevirtual 171, 3) := by decide +kernel
theorem dX11_ruleLine_89 : decode cX11_ruleLine 89 = .ok (.ifCond .eq 19, 3) := by decide +kernel
theorem dX11_ruleLine_92 : decode cX11_ruleLine 92 = .ok (.aload_n 0, 1) := by decide +kernel
theorem dX11_ruleLine_93 : decode cX11_ruleLine 93 = .ok (.iconst 3, 1) := by decide +kernel
theorem dX11_ruleLine_94 : decode cX11_ruleLine 94 = .ok (.invokevirtual 175, 3) := by decide +kernel
theorem dX11_ruleLine_97 : decode cX11_ruleLine 97 = .ok (.aload_n 0, 1) := by decide +kernel
theorem dX11_ruleLine_98 : decode cX11_ruleLine 98 = .ok (.getfield 44, 3) := by decide +kernel
theorem dX11_ruleLine_101 : decode cX11_ruleLine 101 = .ok (.bipush 9, 2) := by decide +kernel
theorem dX11_ruleLine_103 : decode cX11_ruleLine 103 = .ok (.iconst 1, 1) := by decide +kernel
theorem dX11_ruleLine_104 : decode cX11_ruleLine 104 = .ok (.iastore, 1) := by decide +kernel
theorem dX11_ruleLine_105 : decode cX11_ruleLine 105 = .ok (.goto 155, 3) := by decide +kernel
theorem dX11_ruleLine_108 : decode cX11_ruleLine 108 = .ok (.aload_n 0, 1) := by decide +kernel
theorem dX11_ruleLine_109 : decode cX11_ruleLine 109 = .ok (.ldc 187, 2) := by decide +kernel
theorem dX11_ruleLine_111 : decode cX11_ruleLine 111 = .ok (.invokevirtual 171, 3) := by decide +kernel
theorem dX11_ruleLine_114 : decode cX11_ruleLine 114 = .ok (.ifCond .eq 55, 3) := by decide +kernel
theorem dX11_ruleLine_117 : decode cX11_ruleLine 117 = .ok (.aload_n 0, 1) := by decide +kernel
theorem dX11_ruleLine_118 : decode cX11_ruleLine 118 = .ok (.invokevirtual 130, 3) := by decide +kernel
theorem dX11_ruleLine_121 : decode cX11_ruleLine 121 = .ok (.aload_n 0, 1) := by decide +kernel
theorem dX11_ruleLine_122 : decode cX11_ruleLine 122 = .ok (.invokevirtual 150, 3) := by decide +kernel
theorem dX11_ruleLine_125 : decode cX11_ruleLine 125 = .ok (.istore_n 1, 1) := by decide +kernel
theorem dX11_ruleLine_126 : decode cX11_ruleLine 126 = .ok (.aload_n 0, 1) := by decide +kernel
theorem dX11_ruleLine_127 : decode cX11_ruleLine 127 = .ok (.invokevirtual 112, 3) := by decide +kernel
theorem dX11_ruleLine_130 : decode cX11_ruleLine 130 = .ok (.ifCond .ne 13, 3) := by decide +kernel
theorem dX11_ruleLine_133 : decode cX11_ruleLine 133 = .ok (.iload_n 1, 1) := by decide +kernel
theorem dX11_ruleLine_134 : decode cX11_ruleLine 134 = .ok (.iconst (-1), 1) := by decide +kernel
theorem dX11_ruleLine_135 : decode cX11_ruleLine 135 = .ok (.if_icmp .ne 8, 3) := by decide +kernel
theorem dX11_ruleLine_138 : decode cX11_ruleLine 138 = .ok (.aload_n 0, 1) := by decide +kernel
theorem dX11_ruleLine_139 : decode cX11_ruleLine 139 = .ok (.iconst 4, 1) := by decide +kernel
theorem dX11_ruleLine_140 : decode cX11_ruleLine 140 = .ok (.invokevirtual 126, 3) := by decide +kernel
theorem dX11_ruleLine_143 : decode cX11_ruleLine 143 = .ok (.aload_n 0, 1) := by decide +kernel
theorem dX11_ruleLine_144 : decode cX11_ruleLine 144 = .ok (.invokevirtual 112, 3) := by decide +kernel
theorem dX11_ruleLine_147 : decode cX11_ruleLine 147 = .ok (.ifCond .eq 4, 3) := by decide +kernel
theorem dX11_ruleLine_150 : decode cX11_ruleLine 150 = .ok (.return_, 1) := by decide +kernel
theorem dX11_ruleLine_151 : decode cX11_ruleLine 151 = .ok (.aload_n 0, 1) := by decide +kernel
theorem dX11_ruleLine_152 : decode cX11_ruleLine 152 = .ok (.getfield 44, 3) := by decide +kernel
theorem dX11_ruleLine_155 : decode cX11_ruleLine 155 = .ok (.iload_n 1, 1) := by decide +kernel
theorem dX11_ruleLine_156 : decode cX11_ruleLine 156 = .ok (.iconst 1, 1) := by decide +kernel
theorem dX11_ruleLine_157 : decode cX11_ruleLine 157 = .ok (.invokestatic 157, 3) := by decide +kernel
theorem dX11_ruleLine_160 : decode cX11_ruleLine 160 = .ok (.iconst 0, 1) := by decide +kernel
theorem dX11_ruleLine_161 : decode cX11_ruleLine 161 = .ok (.iastore, 1) := by decide +kernel
theorem dX11_ruleLine_162 : decode cX11_ruleLine 162 = .ok (.aload_n 0, 1) := by decide +kernel
theorem dX11_ruleLine_163 : decode cX11_ruleLine 163 = .ok (.invokevirtual 130, 3) := by decide +kernel
theorem dX11_ruleLine_166 : decode cX11_ruleLine 166 = .ok (.goto 94, 3) := by decide +kernel
theorem dX11_ruleLine_169 : decode cX11_ruleLine 169 = .ok (.aload_n 0, 1) := by decide +kernel
theorem dX11_ruleLine_170 : decode cX11_ruleLine 170 = .ok (.ldc 189, 2) := by decide +kernel
theorem dX11_ruleLine_172 : decode cX11_ruleLine 172 = .ok (.invokevirtual 171, 3) := by decide +kernel
theorem dX11_ruleLine_175 : decode cX11_ruleLine 175 = .ok (.ifCond .eq 80, 3) := by decide +kernel
theorem dX11_ruleLine_178 : decode cX11_ruleLine 178 = .ok (.aload_n 0, 1) := by decide +kernel
theorem dX11_ruleLine_179 : decode cX11_ruleLine 179 = .ok (.getfield 190, 3) := by decide +kernel
theorem dX11_ruleLine_182 : decode cX11_ruleLine 182 = .ok (.iconst 4, 1) := by decide +kernel
theorem dX11_ruleLine_183 : decode cX11_ruleLine 183 = .ok (.if_icmp .ne 8, 3) := by decide +kernel
theorem dX11_ruleLine_186 : decode cX11_ruleLine 186 = .ok (.aload_n 0, 1) := by decide +kernel
theorem dX11_ruleLine_187 : decode cX11_ruleLine 187 = .ok (.iconst 5, 1) := by decide +kernel
theorem dX11_ruleLine_188 : decode cX11_ruleLine 188 = .ok (.invokevirtual 126, 3) := by decide +kernel
theorem dX11_ruleLine_191 : decode cX11_ruleLine 191 = .ok (.aload_n 0, 1) := by decide +kernel
theorem dX11_ruleLine_192 : decode cX11_ruleLine 192 = .ok (.invokevirtual 112, 3) := by decide +kernel
theorem dX11_ruleLine_195 : decode cX11_ruleLine 195 = .ok (.ifCond .eq 4, 3) := by decide +kernel
theorem dX11_ruleLine_198 : decode cX11_ruleLine 198 = .ok (.return_, 1) := by decide +kernel
theorem dX11_ruleLine_199 : decode cX11_ruleLine 199 = .ok (.aload_n 0, 1) := by decide +kernel
theorem dX11_ruleLine_200 : decode cX11_ruleLine 200 = .ok (.invokevirtual 130, 3) := by decide +kernel
theorem dX11_ruleLine_203 : decode cX11_ruleLine 203 = .ok (.aload_n 0, 1) := by decide +kernel
theorem dX11_ruleLine_204 : decode cX11_ruleLine 204 = .ok (.getfield 56, 3) := by decide +kernel
theorem dX11_ruleLine_207 : decode cX11_ruleLine 207 = .ok (.iconst 2, 1) := by decide +kernel
theorem dX11_ruleLine_208 : decode cX11_ruleLine 208 = .ok (.aload_n 0, 1) := by decide +kernel
theorem dX11_ruleLine_209 : decode cX11_ruleLine 209 = .ok (.getfield 190, 3) := by decide +kernel
theorem dX11_ruleLine_212 : decode cX11_ruleLine 212 = .ok (.imul, 1) := by decide +kernel
theorem dX11_ruleLine_213 : decode cX11_ruleLine 213 = .ok (.aload_n 0, 1) := by decide +kernel
theorem dX11_ruleLine_214 : decode cX11_ruleLine 214 = .ok (.iconst 1, 1) := by decide +kernel
theorem dX11_ruleLine_215 : decode cX11_ruleLine 215 = .ok (.sipush 999, 3) := by decide +kernel
theorem dX11_ruleLine_218 : decode cX11_ruleLine 218 = .ok (.invokevirtual 153, 3) := by decide +kernel
theorem dX11_ruleLine_221 : decode cX11_ruleLine 221 = .ok (.iastore, 1) := by decide +kernel
theorem dX11_ruleLine_222 : decode cX11_ruleLine 222 = .ok (.aload_n 0, 1) := by decide +kernel
theorem dX11_ruleLine_223 : decode cX11_ruleLine 223 = .ok (.getfield 56, 3) := by decide +kernel
theorem dX11_ruleLine_226 : decode cX11_ruleLine 226 = .ok (.iconst 2, 1) := by decide +kernel
theorem dX11_ruleLine_227 : decode cX11_ruleLine 227 = .ok (.aload_n 0, 1) := by decide +kernel
theorem dX11_ruleLine_228 : decode cX11_ruleLine 228 = .ok (.getfield 190, 3) := by decide +kernel
theorem dX11_ruleLine_231 : decode cX11_ruleLine 231 = .ok (.imul, 1) := by decide +kernel
theorem dX11_ruleLine_232 : decode cX11_ruleLine 232 = .ok (.iconst 1, 1) := by decide +kernel
theorem dX11_ruleLine_233 : decode cX11_ruleLine 233 = .ok (.iadd, 1) := by decide +kernel
theorem dX11_ruleLine_234 : decode cX11_ruleLine 234 = .ok (.aload_n 0, 1) := by decide +kernel
theorem dX11_ruleLine_235 : decode cX11_ruleLine 235 = .ok (.iconst 1, 1) := by decide +kernel
theorem dX11_ruleLine_236 : decode cX11_ruleLine 236 = .ok (.bipush 50, 2) := by decide +kernel
theorem dX11_ruleLine_238 : decode cX11_ruleLine 238 = .ok (.invokevirtual 153, 3) := by decide +kernel
theorem dX11_ruleLine_241 : decode cX11_ruleLine 241 = .ok (.iastore, 1) := by decide +kernel
theorem dX11_ruleLine_242 : decode cX11_ruleLine 242 = .ok (.aload_n 0, 1) := by decide +kernel
theorem dX11_ruleLine_243 : decode cX11_ruleLine 243 = .ok (.dup, 1) := by decide +kernel
theorem dX11_ruleLine_244 : decode cX11_ruleLine 244 = .ok (.getfield 190, 3) := by decide +kernel
theorem dX11_ruleLine_247 : decode cX11_ruleLine 247 = .ok (.iconst 1, 1) := by decide +kernel
theorem dX11_ruleLine_248 : decode cX11_ruleLine 248 = .ok (.iadd, 1) := by decide +kernel
theorem dX11_ruleLine_249 : decode cX11_ruleLine 249 = .ok (.putfield 190, 3) := by decide +kernel
theorem dX11_ruleLine_252 : decode cX11_ruleLine 252 = .ok (.goto 8, 3) := by decide +kernel
theorem dX11_ruleLine_255 : decode cX11_ruleLine 255 = .ok (.aload_n 0, 1) := by decide +kernel
theorem dX11_ruleLine_256 : decode cX11_ruleLine 256 = .ok (.iconst 1, 1) := by decide +kernel
theorem dX11_ruleLine_257 : decode cX11_ruleLine 257 = .ok (.invokevirtual 126, 3) := by decide +kernel
theorem dX11_ruleLine_260 : decode cX11_ruleLine 260 = .ok (.aload_n 0, 1) := by decide +kernel
theorem dX11_ruleLine_261 : decode cX11_ruleLine 261 = .ok (.invokevirtual 160, 3) := by decide +kernel
theorem dX11_ruleLine_264 : decode cX11_ruleLine 264 = .ok (.return_, 1) := by decide +kernel
theorem dX11_clearsTold_0 : decode cX11_clearsTold 0 = .ok (.iconst 0, 1) := by decide +kernel
theorem dX11_clearsTold_1 : decode cX11_clearsTold 1 = .ok (.istore_n 1, 1) := by decide +kernel
theorem dX11_clearsTold_2 : decode cX11_clearsTold 2 = .ok (.iload_n 1, 1) := by decide +kernel
theorem dX11_clearsTold_3 : decode cX11_clearsTold 3 = .ok (.sipush 411, 3) := by decide +kernel
theorem dX11_clearsTold_6 : decode cX11_clearsTold 6 = .ok (.if_icmp .ge 16, 3) := by decide +kernel
theorem dX11_clearsTold_9 : decode cX11_clearsTold 9 = .ok (.aload_n 0, 1) := by decide +kernel
theorem dX11_clearsTold_10 : decode cX11_clearsTold 10 = .ok (.getfield 44, 3) := by decide +kernel
theorem dX11_clearsTold_13 : decode cX11_clearsTold 13 = .ok (.iload_n 1, 1) := by decide +kernel
theorem dX11_clearsTold_14 : decode cX11_clearsTold 14 = .ok (.iconst 0, 1) := by decide +kernel
theorem dX11_clearsTold_15 : decode cX11_clearsTold 15 = .ok (.iastore, 1) := by decide +kernel
theorem dX11_clearsTold_16 : decode cX11_clearsTold 16 = .ok (.iinc 1 1, 3) := by decide +kernel
theorem dX11_clearsTold_19 : decode cX11_clearsTold 19 = .ok (.goto (-17), 3) := by decide +kernel
theorem dX11_clearsTold_22 : decode cX11_clearsTold 22 = .ok (.aload_n 0, 1) := by decide +kernel
theorem dX11_clearsTold_23 : decode cX11_clearsTold 23 = .ok (.getfield 44, 3) := by decide +kernel
theorem dX11_clearsTold_26 : decode cX11_clearsTold 26 = .ok (.bipush 7, 2) := by decide +kernel
theorem dX11_clearsTold_28 : decode cX11_clearsTold 28 = .ok (.iconst 3, 1) := by decide +kernel
theorem dX11_clearsTold_29 : decode cX11_clearsTold 29 = .ok (.iastore, 1) := by decide +kernel
theorem dX11_clearsTold_30 : decode cX11_clearsTold 30 = .ok (.aload_n 0, 1) := by decide +kernel
theorem dX11_clearsTold_31 : decode cX11_clearsTold 31 = .ok (.getfield 44, 3) := by decide +kernel
theorem dX11_clearsTold_34 : decode cX11_clearsTold 34 = .ok (.bipush 8, 2) := by decide +kernel
theorem dX11_clearsTold_36 : decode cX11_clearsTold 36 = .ok (.iconst 4, 1) := by decide +kernel
theorem dX11_clearsTold_37 : decode cX11_clearsTold 37 = .ok (.iastore, 1) := by decide +kernel
theorem dX11_clearsTold_38 : decode cX11_clearsTold 38 = .ok (.aload_n 0, 1) := by decide +kernel
theorem dX11_clearsTold_39 : decode cX11_clearsTold 39 = .ok (.iconst 0, 1) := by decide +kernel
theorem dX11_clearsTold_40 : decode cX11_clearsTold 40 = .ok (.putfield 140, 3) := by decide +kernel
theorem dX11_clearsTold_43 : decode cX11_clearsTold 43 = .ok (.aload_n 0, 1) := by decide +kernel
theorem dX11_clearsTold_44 : decode cX11_clearsTold 44 = .ok (.iconst 0, 1) := by decide +kernel
theorem dX11_clearsTold_45 : decode cX11_clearsTold 45 = .ok (.putfield 163, 3) := by decide +kernel
theorem dX11_clearsTold_48 : decode cX11_clearsTold 48 = .ok (.aload_n 0, 1) := by decide +kernel
theorem dX11_clearsTold_49 : decode cX11_clearsTold 49 = .ok (.iconst 0, 1) := by decide +kernel
theorem dX11_clearsTold_50 : decode cX11_clearsTold 50 = .ok (.putfield 166, 3) := by decide +kernel
theorem dX11_clearsTold_53 : decode cX11_clearsTold 53 = .ok (.aload_n 0, 1) := by decide +kernel
theorem dX11_clearsTold_54 : decode cX11_clearsTold 54 = .ok (.iconst 0, 1) := by decide +kernel
theorem dX11_clearsTold_55 : decode cX11_clearsTold 55 = .ok (.putfield 190, 3) := by decide +kernel
theorem dX11_clearsTold_58 : decode cX11_clearsTold 58 = .ok (.aload_n 0, 1) := by decide +kernel
theorem dX11_clearsTold_59 : decode cX11_clearsTold 59 = .ok (.iconst 0, 1) := by decide +kernel
theorem dX11_clearsTold_60 : decode cX11_clearsTold 60 = .ok (.putfield 147, 3) := by decide +kernel
theorem dX11_clearsTold_63 : decode cX11_clearsTold 63 = .ok (.return_, 1) := by decide +kernel
theorem dX11_load_0 : decode cX11_load 0 = .ok (.aload_n 0, 1) := by decide +kernel
theorem dX11_load_1 : decode cX11_load 1 = .ok (.iconst 0, 1) := by decide +kernel
theorem dX11_load_2 : decode cX11_load 2 = .ok (.putfield 72, 3) := by decide +kernel
theorem dX11_load_5 : decode cX11_load 5 = .ok (.aload_n 0, 1) := by decide +kernel
theorem dX11_load_6 : decode cX11_load 6 = .ok (.aload_n 0, 1) := by decide +kernel
theorem dX11_load_7 : decode cX11_load 7 = .ok (.getfield 75, 3) := by decide +kernel
theorem dX11_load_10 : decode cX11_load 10 = .ok (.putfield 86, 3) := by decide +kernel
theorem dX11_load_13 : decode cX11_load 13 = .ok (.aload_n 0, 1) := by decide +kernel
theorem dX11_load_14 : decode cX11_load 14 = .ok (.iconst 0, 1) := by decide +kernel
theorem dX11_load_15 : decode cX11_load 15 = .ok (.putfield 75, 3) := by decide +kernel
theorem dX11_load_18 : decode cX11_load 18 = .ok (.aload_n 0, 1) := by decide +kernel
theorem dX11_load_19 : decode cX11_load 19 = .ok (.iconst 0, 1) := by decide +kernel
theorem dX11_load_20 : decode cX11_load 20 = .ok (.putfield 89, 3) := by decide +kernel
theorem dX11_load_23 : decode cX11_load 23 = .ok (.aload_n 0, 1) := by decide +kernel
theorem dX11_load_24 : decode cX11_load 24 = .ok (.iconst 0, 1) := by decide +kernel
theorem dX11_load_25 : decode cX11_load 25 = .ok (.putfield 109, 3) := by decide +kernel
theorem dX11_load_28 : decode cX11_load 28 = .ok (.aload_n 0, 1) := by decide +kernel
theorem dX11_load_29 : decode cX11_load 29 = .ok (.iconst (-1), 1) := by decide +kernel
theorem dX11_load_30 : decode cX11_load 30 = .ok (.putfield 62, 3) := by decide +kernel
theorem dX11_load_33 : decode cX11_load 33 = .ok (.aload_n 0, 1) := by decide +kernel
theorem dX11_load_34 : decode cX11_load 34 = .ok (.invokevirtual 66, 3) := by decide +kernel
theorem dX11_load_37 : decode cX11_load 37 = .ok (.aload_n 0, 1) := by decide +kernel
theorem dX11_load_38 : decode cX11_load 38 = .ok (.invokevirtual 130, 3) := by decide +kernel
theorem dX11_load_41 : decode cX11_load 41 = .ok (.aload_n 0, 1) := by decide +kernel
theorem dX11_load_42 : decode cX11_load 42 = .ok (.aload_n 0, 1) := by decide +kernel
theorem dX11_load_43 : decode cX11_load 43 = .ok (.ldc 193, 2) := by decide +kernel
theorem dX11_load_45 : decode cX11_load 45 = .ok (.invokevirtual 171, 3) := by decide +kernel
theorem dX11_load_48 : decode cX11_load 48 = .ok (.invokevirtual 133, 3) := by decide +kernel
theorem dX11_load_51 : decode cX11_load 51 = .ok (.aload_n 0, 1) := by decide +kernel
theorem dX11_load_52 : decode cX11_load 52 = .ok (.getfield 44, 3) := by decide +kernel
theorem dX11_load_55 : decode cX11_load 55 = .ok (.bipush 6, 2) := by decide +kernel
theorem dX11_load_57 : decode cX11_load 57 = .ok (.aload_n 0, 1) := by decide +kernel
theorem dX11_load_58 : decode cX11_load 58 = .ok (.iconst 1, 1) := by decide +kernel
theorem dX11_load_59 : decode cX11_load 59 = .ok (.sipush 9999, 3) := by decide +kernel
theorem dX11_load_62 : decode cX11_load 62 = .ok (.invokevirtual 153, 3) := by decide +kernel
theorem dX11_load_65 : decode cX11_load 65 = .ok (.iastore, 1) := by decide +kernel
theorem dX11_load_66 : decode cX11_load 66 = .ok (.aload_n 0, 1) := by decide +kernel
theorem dX11_load_67 : decode cX11_load 67 = .ok (.invokevirtual 160, 3) := by decide +kernel
theorem dX11_load_70 : decode cX11_load 70 = .ok (.aload_n 0, 1) := by decide +kernel
theorem dX11_load_71 : decode cX11_load 71 = .ok (.ldc 195, 2) := by decide +kernel
theorem dX11_load_73 : decode cX11_load 73 = .ok (.invokevirtual 171, 3) := by decide +kernel
theorem dX11_load_76 : decode cX11_load 76 = .ok (.ifCond .eq 10, 3) := by decide +kernel
theorem dX11_load_79 : decode cX11_load 79 = .ok (.aload_n 0, 1) := by decide +kernel
theorem dX11_load_80 : decode cX11_load 80 = .ok (.invokevirtual 197, 3) := by decide +kernel
theorem dX11_load_83 : decode cX11_load 83 = .ok (.goto (-13), 3) := by decide +kernel
theorem dX11_load_86 : decode cX11_load 86 = .ok (.aload_n 0, 1) := by decide +kernel
theorem dX11_load_87 : decode cX11_load 87 = .ok (.ldc 200, 2) := by decide +kernel
theorem dX11_load_89 : decode cX11_load 89 = .ok (.invokevirtual 171, 3) := by decide +kernel
theorem dX11_load_92 : decode cX11_load 92 = .ok (.ifCond .eq 10, 3) := by decide +kernel
theorem dX11_load_95 : decode cX11_load 95 = .ok (.aload_n 0, 1) := by decide +kernel
theorem dX11_load_96 : decode cX11_load 96 = .ok (.invokevirtual 201, 3) := by decide +kernel
theorem dX11_load_99 : decode cX11_load 99 = .ok (.goto (-13), 3) := by decide +kernel
theorem dX11_load_102 : decode cX11_load 102 = .ok (.aload_n 0, 1) := by decide +kernel
theorem dX11_load_103 : decode cX11_load 103 = .ok (.invokevirtual 112, 3) := by decide +kernel
theorem dX11_load_106 : decode cX11_load 106 = .ok (.ifCond .ne 17, 3) := by decide +kernel
theorem dX11_load_109 : decode cX11_load 109 = .ok (.aload_n 0, 1) := by decide +kernel
theorem dX11_load_110 : decode cX11_load 110 = .ok (.getfield 99, 3) := by decide +kernel
theorem dX11_load_113 : decode cX11_load 113 = .ok (.ifCond .eq 10, 3) := by decide +kernel
theorem dX11_load_116 : decode cX11_load 116 = .ok (.aload_n 0, 1) := by decide +kernel
theorem dX11_load_117 : decode cX11_load 117 = .ok (.invokevirtual 204, 3) := by decide +kernel
theorem dX11_load_120 : decode cX11_load 120 = .ok (.goto (-18), 3) := by decide +kernel
theorem dX11_load_123 : decode cX11_load 123 = .ok (.aload_n 0, 1) := by decide +kernel
theorem dX11_load_124 : decode cX11_load 124 = .ok (.aload_n 0, 1) := by decide +kernel
theorem dX11_load_125 : decode cX11_load 125 = .ok (.invokevirtual 112, 3) := by decide +kernel
theorem dX11_load_128 : decode cX11_load 128 = .ok (.ifCond .ne 7, 3) := by decide +kernel
theorem dX11_load_131 : decode cX11_load 131 = .ok (.iconst 1, 1) := by decide +kernel
theorem dX11_load_132 : decode cX11_load 132 = .ok (.goto 4, 3) := by decide +kernel
theorem dX11_load_135 : decode cX11_load 135 = .ok (.iconst 0, 1) := by decide +kernel
theorem dX11_load_136 : decode cX11_load 136 = .ok (.iconst 1, 1) := by decide +kernel
theorem dX11_load_137 : decode cX11_load 137 = .ok (.invokevirtual 78, 3) := by decide +kernel
theorem dX11_load_140 : decode cX11_load 140 = .ok (.ifCond .ne 5, 3) := by decide +kernel
theorem dX11_load_143 : decode cX11_load 143 = .ok (.iconst 0, 1) := by decide +kernel
theorem dX11_load_144 : decode cX11_load 144 = .ok (.ireturn, 1) := by decide +kernel
theorem dX11_load_145 : decode cX11_load 145 = .ok (.aload_n 0, 1) := by decide +kernel
theorem dX11_load_146 : decode cX11_load 146 = .ok (.invokevirtual 69, 3) := by decide +kernel
theorem dX11_load_149 : decode cX11_load 149 = .ok (.aload_n 0, 1) := by decide +kernel
theorem dX11_load_150 : decode cX11_load 150 = .ok (.getfield 207, 3) := by decide +kernel
theorem dX11_load_153 : decode cX11_load 153 = .ok (.ireturn, 1) := by decide +kernel
theorem dX11_begins_0 : decode cX11_begins 0 = .ok (.aload_n 0, 1) := by decide +kernel
theorem dX11_begins_1 : decode cX11_begins 1 = .ok (.aload_n 0, 1) := by decide +kernel
theorem dX11_begins_2 : decode cX11_begins 2 = .ok (.getfield 140, 3) := by decide +kernel
theorem dX11_begins_5 : decode cX11_begins 5 = .ok (.putfield 207, 3) := by decide +kernel
theorem dX11_begins_8 : decode cX11_begins 8 = .ok (.aload_n 0, 1) := by decide +kernel
theorem dX11_begins_9 : decode cX11_begins 9 = .ok (.aload_n 0, 1) := by decide +kernel
theorem dX11_begins_10 : decode cX11_begins 10 = .ok (.getfield 163, 3) := by decide +kernel
theorem dX11_begins_13 : decode cX11_begins 13 = .ok (.putfield 210, 3) := by decide +kernel
theorem dX11_begins_16 : decode cX11_begins 16 = .ok (.aload_n 0, 1) := by decide +kernel
theorem dX11_begins_17 : decode cX11_begins 17 = .ok (.aload_n 0, 1) := by decide +kernel
theorem dX11_begins_18 : decode cX11_begins 18 = .ok (.getfield 166, 3) := by decide +kernel
theorem dX11_begins_21 : decode cX11_begins 21 = .ok (.putfield 213, 3) := by decide +kernel
theorem dX11_begins_24 : decode cX11_begins 24 = .ok (.aload_n 0, 1) := by decide +kernel
theorem dX11_begins_25 : decode cX11_begins 25 = .ok (.aload_n 0, 1) := by decide +kernel
theorem dX11_begins_26 : decode cX11_begins 26 = .ok (.getfield 190, 3) := by decide +kernel
theorem dX11_begins_29 : decode cX11_begins 29 = .ok (.putfield 216, 3) := by decide +kernel
theorem dX11_begins_32 : decode cX11_begins 32 = .ok (.iconst 0, 1) := by decide +kernel
theorem dX11_begins_33 : decode cX11_begins 33 = .ok (.istore_n 1, 1) := by decide +kernel
theorem dX11_begins_34 : decode cX11_begins 34 = .ok (.iload_n 1, 1) := by decide +kernel
theorem dX11_begins_35 : decode cX11_begins 35 = .ok (.bipush 48, 2) := by decide +kernel
theorem dX11_begins_37 : decode cX11_begins 37 = .ok (.if_icmp .ge 21, 3) := by decide +kernel
theorem dX11_begins_40 : decode cX11_begins 40 = .ok (.aload_n 0, 1) := by decide +kernel
theorem dX11_begins_41 : decode cX11_begins 41 = .ok (.getfield 7, 3) := by decide +kernel
theorem dX11_begins_44 : decode cX11_begins 44 = .ok (.iload_n 1, 1) := by decide +kernel
theorem dX11_begins_45 : decode cX11_begins 45 = .ok (.aload_n 0, 1) := by decide +kernel
theorem dX11_begins_46 : decode cX11_begins 46 = .ok (.getfield 47, 3) := by decide +kernel
theorem dX11_begins_49 : decode cX11_begins 49 = .ok (.iload_n 1, 1) := by decide +kernel
theorem dX11_begins_50 : decode cX11_begins 50 = .ok (.iaload, 1) := by decide +kernel
theorem dX11_begins_51 : decode cX11_begins 51 = .ok (.iastore, 1) := by decide +kernel
theorem dX11_begins_52 : decode cX11_begins 52 = .ok (.iinc 1 1, 3) := by decide +kernel
theorem dX11_begins_55 : decode cX11_begins 55 = .ok (.goto (-21), 3) := by decide +kernel
theorem dX11_begins_58 : decode cX11_begins 58 = .ok (.iconst 0, 1) := by decide +kernel
theorem dX11_begins_59 : decode cX11_begins 59 = .ok (.istore_n 1, 1) := by decide +kernel
theorem dX11_begins_60 : decode cX11_begins 60 = .ok (.iload_n 1, 1) := by decide +kernel
theorem dX11_begins_61 : decode cX11_begins 61 = .ok (.bipush 12, 2) := by decide +kernel
theorem dX11_begins_63 : decode cX11_begins 63 = .ok (.if_icmp .ge 21, 3) := by decide +kernel
theorem dX11_begins_66 : decode cX11_begins 66 = .ok (.aload_n 0, 1) := by decide +kernel
theorem dX11_begins_67 : decode cX11_begins 67 = .ok (.getfield 13, 3) := by decide +kernel
theorem dX11_begins_70 : decode cX11_begins 70 = .ok (.iload_n 1, 1) := by decide +kernel
theorem dX11_begins_71 : decode cX11_begins 71 = .ok (.aload_n 0, 1) := by decide +kernel
theorem dX11_begins_72 : decode cX11_begins 72 = .ok (.getfield 50, 3) := by decide +kernel
theorem dX11_begins_75 : decode cX11_begins 75 = .ok (.iload_n 1, 1) := by decide +kernel
theorem dX11_begins_76 : decode cX11_begins 76 = .ok (.iaload, 1) := by decide +kernel
theorem dX11_begins_77 : decode cX11_begins 77 = .ok (.iastore, 1) := by decide +kernel
theorem dX11_begins_78 : decode cX11_begins 78 = .ok (.iinc 1 1, 3) := by decide +kernel
theorem dX11_begins_81 : decode cX11_begins 81 = .ok (.goto (-21), 3) := by decide +kernel
theorem dX11_begins_84 : decode cX11_begins 84 = .ok (.iconst 0, 1) := by decide +kernel
theorem dX11_begins_85 : decode cX11_begins 85 = .ok (.istore_n 1, 1) := by decide +kernel
theorem dX11_begins_86 : decode cX11_begins 86 = .ok (.iload_n 1, 1) := by decide +kernel
theorem dX11_begins_87 : decode cX11_begins 87 = .ok (.bipush 24, 2) := by decide +kernel
theorem dX11_begins_89 : decode cX11_begins 89 = .ok (.if_icmp .ge 21, 3) := by decide +kernel
theorem dX11_begins_92 : decode cX11_begins 92 = .ok (.aload_n 0, 1) := by decide +kernel
theorem dX11_begins_93 : decode cX11_begins 93 = .ok (.getfield 16, 3) := by decide +kernel
theorem dX11_begins_96 : decode cX11_begins 96 = .ok (.iload_n 1, 1) := by decide +kernel
theorem dX11_begins_97 : decode cX11_begins 97 = .ok (.aload_n 0, 1) := by decide +kernel
theorem dX11_begins_98 : decode cX11_begins 98 = .ok (.getfield 53, 3) := by decide +kernel
theorem dX11_begins_101 : decode cX11_begins 101 = .ok (.iload_n 1, 1) := by decide +kernel
theorem dX11_begins_102 : decode cX11_begins 102 = .ok (.iaload, 1) := by decide +kernel
theorem dX11_begins_103 : decode cX11_begins 103 = .ok (.iastore, 1) := by decide +kernel
theorem dX11_begins_104 : decode cX11_begins 104 = .ok (.iinc 1 1, 3) := by decide +kernel
theorem dX11_begins_107 : decode cX11_begins 107 = .ok (.goto (-21), 3) := by decide +kernel
theorem dX11_begins_110 : decode cX11_begins 110 = .ok (.iconst 0, 1) := by decide +kernel
theorem dX11_begins_111 : decode cX11_begins 111 = .ok (.istore_n 1, 1) := by decide +kernel
theorem dX11_begins_112 : decode cX11_begins 112 = .ok (.iload_n 1, 1) := by decide +kernel
theorem dX11_begins_113 : decode cX11_begins 113 = .ok (.bipush 8, 2) := by decide +kernel
theorem dX11_begins_115 : decode cX11_begins 115 = .ok (.if_icmp .ge 21, 3) := by decide +kernel
theorem dX11_begins_118 : decode cX11_begins 118 = .ok (.aload_n 0, 1) := by decide +kernel
theorem dX11_begins_119 : decode cX11_begins 119 = .ok (.getfield 19, 3) := by decide +kernel
theorem dX11_begins_122 : decode cX11_begins 122 = .ok (.iload_n 1, 1) := by decide +kernel
theorem dX11_begins_123 : decode cX11_begins 123 = .ok (.aload_n 0, 1) := by decide +kernel
theorem dX11_begins_124 : decode cX11_begins 124 = .ok (.getfield 56, 3) := by decide +kernel
theorem dX11_begins_127 : decode cX11_begins 127 = .ok (.iload_n 1, 1) := by decide +kernel
theorem dX11_begins_128 : decode cX11_begins 128 = .ok (.iaload, 1) := by decide +kernel
theorem dX11_begins_129 : decode cX11_begins 129 = .ok (.iastore, 1) := by decide +kernel
theorem dX11_begins_130 : decode cX11_begins 130 = .ok (.iinc 1 1, 3) := by decide +kernel
theorem dX11_begins_133 : decode cX11_begins 133 = .ok (.goto (-21), 3) := by decide +kernel
theorem dX11_begins_136 : decode cX11_begins 136 = .ok (.iconst 0, 1) := by decide +kernel
theorem dX11_begins_137 : decode cX11_begins 137 = .ok (.istore_n 1, 1) := by decide +kernel
theorem dX11_begins_138 : decode cX11_begins 138 = .ok (.iload_n 1, 1) := by decide +kernel
theorem dX11_begins_139 : decode cX11_begins 139 = .ok (.bipush 96, 2) := by decide +kernel
theorem dX11_begins_141 : decode cX11_begins 141 = .ok (.if_icmp .ge 21, 3) := by decide +kernel
theorem dX11_begins_144 : decode cX11_begins 144 = .ok (.aload_n 0, 1) := by decide +kernel
theorem dX11_begins_145 : decode cX11_begins 145 = .ok (.getfield 22, 3) := by decide +kernel
theorem dX11_begins_148 : decode cX11_begins 148 = .ok (.iload_n 1, 1) := by decide +kernel
theorem dX11_begins_149 : decode cX11_begins 149 = .ok (.aload_n 0, 1) := by decide +kernel
theorem dX11_begins_150 : decode cX11_begins 150 = .ok (.getfield 59, 3) := by decide +kernel
theorem dX11_begins_153 : decode cX11_begins 153 = .ok (.iload_n 1, 1) := by decide +kernel
theorem dX11_begins_154 : decode cX11_begins 154 = .ok (.iaload, 1) := by decide +kernel
theorem dX11_begins_155 : decode cX11_begins 155 = .ok (.iastore, 1) := by decide +kernel
theorem dX11_begins_156 : decode cX11_begins 156 = .ok (.iinc 1 1, 3) := by decide +kernel
theorem dX11_begins_159 : decode cX11_begins 159 = .ok (.goto (-21), 3) := by decide +kernel
theorem dX11_begins_162 : decode cX11_begins 162 = .ok (.iconst 0, 1) := by decide +kernel
theorem dX11_begins_163 : decode cX11_begins 163 = .ok (.istore_n 1, 1) := by decide +kernel
theorem dX11_begins_164 : decode cX11_begins 164 = .ok (.iload_n 1, 1) := by decide +kernel
theorem dX11_begins_165 : decode cX11_begins 165 = .ok (.sipush 411, 3) := by decide +kernel
theorem dX11_begins_168 : decode cX11_begins 168 = .ok (.if_icmp .ge 21, 3) := by decide +kernel
theorem dX11_begins_171 : decode cX11_begins 171 = .ok (.aload_n 0, 1) := by decide +kernel
theorem dX11_begins_172 : decode cX11_begins 172 = .ok (.getfield 25, 3) := by decide +kernel
theorem dX11_begins_175 : decode cX11_begins 175 = .ok (.iload_n 1, 1) := by decide +kernel
theorem dX11_begins_176 : decode cX11_begins 176 = .ok (.aload_n 0, 1) := by decide +kernel
theorem dX11_begins_177 : decode cX11_begins 177 = .ok (.getfield 44, 3) := by decide +kernel
theorem dX11_begins_180 : decode cX11_begins 180 = .ok (.iload_n 1, 1) := by decide +kernel
theorem dX11_begins_181 : decode cX11_begins 181 = .ok (.iaload, 1) := by decide +kernel
theorem dX11_begins_182 : decode cX11_begins 182 = .ok (.iastore, 1) := by decide +kernel
theorem dX11_begins_183 : decode cX11_begins 183 = .ok (.iinc 1 1, 3) := by decide +kernel
theorem dX11_begins_186 : decode cX11_begins 186 = .ok (.goto (-22), 3) := by decide +kernel
theorem dX11_begins_189 : decode cX11_begins 189 = .ok (.iconst 0, 1) := by decide +kernel
theorem dX11_begins_190 : decode cX11_begins 190 = .ok (.istore_n 1, 1) := by decide +kernel
theorem dX11_begins_191 : decode cX11_begins 191 = .ok (.iload_n 1, 1) := by decide +kernel
theorem dX11_begins_192 : decode cX11_begins 192 = .ok (.aload_n 0, 1) := by decide +kernel
theorem dX11_begins_193 : decode cX11_begins 193 = .ok (.getfield 207, 3) := by decide +kernel
theorem dX11_begins_196 : decode cX11_begins 196 = .ok (.if_icmp .ge 52, 3) := by decide +kernel
theorem dX11_begins_199 : decode cX11_begins 199 = .ok (.aload_n 0, 1) := by decide +kernel
theorem dX11_begins_200 : decode cX11_begins 200 = .ok (.getfield 25, 3) := by decide +kernel
theorem dX11_begins_203 : decode cX11_begins 203 = .ok (.iload_n 1, 1) := by decide +kernel
theorem dX11_begins_204 : decode cX11_begins 204 = .ok (.iconst 2, 1) := by decide +kernel
theorem dX11_begins_205 : decode cX11_begins 205 = .ok (.invokestatic 157, 3) := by decide +kernel
theorem dX11_begins_208 : decode cX11_begins 208 = .ok (.aload_n 0, 1) := by decide +kernel
theorem dX11_begins_209 : decode cX11_begins 209 = .ok (.getfield 25, 3) := by decide +kernel
theorem dX11_begins_212 : decode cX11_begins 212 = .ok (.iload_n 1, 1) := by decide +kernel
theorem dX11_begins_213 : decode cX11_begins 213 = .ok (.iconst 1, 1) := by decide +kernel
theorem dX11_begins_214 : decode cX11_begins 214 = .ok (.invokestatic 157, 3) := by decide +kernel
theorem dX11_begins_217 : decode cX11_begins 217 = .ok (.iaload, 1) := by decide +kernel
theorem dX11_begins_218 : decode cX11_begins 218 = .ok (.iastore, 1) := by decide +kernel
theorem dX11_begins_219 : decode cX11_begins 219 = .ok (.aload_n 0, 1) := by decide +kernel
theorem dX11_begins_220 : decode cX11_begins 220 = .ok (.getfield 25, 3) := by decide +kernel
theorem dX11_begins_223 : decode cX11_begins 223 = .ok (.iload_n 1, 1) := by decide +kernel
theorem dX11_begins_224 : decode cX11_begins 224 = .ok (.iconst 5, 1) := by decide +kernel
theorem dX11_begins_225 : decode cX11_begins 225 = .ok (.invokestatic 157, 3) := by decide +kernel
theorem dX11_begins_228 : decode cX11_begins 228 = .ok (.iconst (-1), 1) := by decide +kernel
theorem dX11_begins_229 : decode cX11_begins 229 = .ok (.iastore, 1) := by decide +kernel
theorem dX11_begins_230 : decode cX11_begins 230 = .ok (.aload_n 0, 1) := by decide +kernel
theorem dX11_begins_231 : decode cX11_begins 231 = .ok (.getfield 25, 3) := by decide +kernel
theorem dX11_begins_234 : decode cX11_begins 234 = .ok (.iload_n 1, 1) := by decide +kernel
theorem dX11_begins_235 : decode cX11_begins 235 = .ok (.bipush 6, 2) := by decide +kernel
theorem dX11_begins_237 : decode cX11_begins 237 = .ok (.invokestatic 157, 3) := by decide +kernel
theorem dX11_begins_240 : decode cX11_begins 240 = .ok (.iconst (-1), 1) := by decide +kernel
theorem dX11_begins_241 : decode cX11_begins 241 = .ok (.iastore, 1) := by decide +kernel
theorem dX11_begins_242 : decode cX11_begins 242 = .ok (.iinc 1 1, 3) := by decide +kernel
theorem dX11_begins_245 : decode cX11_begins 245 = .ok (.goto (-54), 3) := by decide +kernel
theorem dX11_begins_248 : decode cX11_begins 248 = .ok (.aload_n 0, 1) := by decide +kernel
theorem dX11_begins_249 : decode cX11_begins 249 = .ok (.iconst 0, 1) := by decide +kernel
theorem dX11_begins_250 : decode cX11_begins 250 = .ok (.putfield 219, 3) := by decide +kernel
theorem dX11_begins_253 : decode cX11_begins 253 = .ok (.aload_n 0, 1) := by decide +kernel
theorem dX11_begins_254 : decode cX11_begins 254 = .ok (.getfield 37, 3) := by decide +kernel
theorem dX11_begins_257 : decode cX11_begins 257 = .ok (.iconst 0, 1) := by decide +kernel
theorem dX11_begins_258 : decode cX11_begins 258 = .ok (.iconst 0, 1) := by decide +kernel
theorem dX11_begins_259 : decode cX11_begins 259 = .ok (.bastore, 1) := by decide +kernel
theorem dX11_begins_260 : decode cX11_begins 260 = .ok (.aload_n 0, 1) := by decide +kernel
theorem dX11_begins_261 : decode cX11_begins 261 = .ok (.getfield 37, 3) := by decide +kernel
theorem dX11_begins_264 : decode cX11_begins 264 = .ok (.iconst 1, 1) := by decide +kernel
theorem dX11_begins_265 : decode cX11_begins 265 = .ok (.iconst 0, 1) := by decide +kernel
theorem dX11_begins_266 : decode cX11_begins 266 = .ok (.bastore, 1) := by decide +kernel
theorem dX11_begins_267 : decode cX11_begins 267 = .ok (.return_, 1) := by decide +kernel
theorem dX11_errorCode_0 : decode cX11_errorCode 0 = .ok (.aload_n 0, 1) := by decide +kernel
theorem dX11_errorCode_1 : decode cX11_errorCode 1 = .ok (.iconst 0, 1) := by decide +kernel
theorem dX11_errorCode_2 : decode cX11_errorCode 2 = .ok (.putfield 72, 3) := by decide +kernel
theorem dX11_errorCode_5 : decode cX11_errorCode 5 = .ok (.aload_n 0, 1) := by decide +kernel
theorem dX11_errorCode_6 : decode cX11_errorCode 6 = .ok (.getfield 109, 3) := by decide +kernel
theorem dX11_errorCode_9 : decode cX11_errorCode 9 = .ok (.ireturn, 1) := by decide +kernel
theorem dX11_errorPosition_0 : decode cX11_errorPosition 0 = .ok (.aload_n 0, 1) := by decide +kernel
theorem dX11_errorPosition_1 : decode cX11_errorPosition 1 = .ok (.iconst 0, 1) := by decide +kernel
theorem dX11_errorPosition_2 : decode cX11_errorPosition 2 = .ok (.putfield 72, 3) := by decide +kernel
theorem dX11_errorPosition_5 : decode cX11_errorPosition 5 = .ok (.aload_n 0, 1) := by decide +kernel
theorem dX11_errorPosition_6 : decode cX11_errorPosition 6 = .ok (.getfield 62, 3) := by decide +kernel
theorem dX11_errorPosition_9 : decode cX11_errorPosition 9 = .ok (.ireturn, 1) := by decide +kernel
theorem dX11_find_0 : decode cX11_find 0 = .ok (.aload_n 0, 1) := by decide +kernel
theorem dX11_find_1 : decode cX11_find 1 = .ok (.iconst 0, 1) := by decide +kernel
theorem dX11_find_2 : decode cX11_find 2 = .ok (.putfield 72, 3) := by decide +kernel
theorem dX11_find_5 : decode cX11_find 5 = .ok (.aload_n 0, 1) := by decide +kernel
theorem dX11_find_6 : decode cX11_find 6 = .ok (.getfield 75, 3) := by decide +kernel
theorem dX11_find_9 : decode cX11_find 9 = .ok (.ifCond .le 16, 3) := by decide +kernel
theorem dX11_find_12 : decode cX11_find 12 = .ok (.aload_n 0, 1) := by decide +kernel
theorem dX11_find_13 : decode cX11_find 13 = .ok (.getfield 75, 3) := by decide +kernel
theorem dX11_find_16 : decode cX11_find 16 = .ok (.bipush 8, 2) := by decide +kernel
theorem dX11_find_18 : decode cX11_find 18 = .ok (.if_icmp .gt 7, 3) := by decide +kernel
theorem dX11_find_21 : decode cX11_find 21 = .ok (.iconst 1, 1) := by decide +kernel
theorem dX11_find_22 : decode cX11_find 22 = .ok (.goto 4, 3) := by decide +kernel
theorem dX11_find_25 : decode cX11_find 25 = .ok (.iconst 0, 1) := by decide +kernel
theorem dX11_find_26 : decode cX11_find 26 = .ok (.istore_n 1, 1) := by decide +kernel
theorem dX11_find_27 : decode cX11_find 27 = .ok (.iconst 0, 1) := by decide +kernel
theorem dX11_find_28 : decode cX11_find 28 = .ok (.istore_n 2, 1) := by decide +kernel
theorem dX11_find_29 : decode cX11_find 29 = .ok (.iload_n 2, 1) := by decide +kernel
theorem dX11_find_30 : decode cX11_find 30 = .ok (.aload_n 0, 1) := by decide +kernel
theorem dX11_find_31 : decode cX11_find 31 = .ok (.getfield 75, 3) := by decide +kernel
theorem dX11_find_34 : decode cX11_find 34 = .ok (.if_icmp .ge 28, 3) := by decide +kernel
theorem dX11_find_37 : decode cX11_find 37 = .ok (.iload_n 1, 1) := by decide +kernel
theorem dX11_find_38 : decode cX11_find 38 = .ok (.ifCond .eq 24, 3) := by decide +kernel
theorem dX11_find_41 : decode cX11_find 41 = .ok (.aload_n 0, 1) := by decide +kernel
theorem dX11_find_42 : decode cX11_find 42 = .ok (.getfield 41, 3) := by decide +kernel
theorem dX11_find_45 : decode cX11_find 45 = .ok (.iload_n 2, 1) := by decide +kernel
theorem dX11_find_46 : decode cX11_find 46 = .ok (.iaload, 1) := by decide +kernel
theorem dX11_find_47 : decode cX11_find 47 = .ok (.ifCond .eq 7, 3) := by decide +kernel
theorem dX11_find_50 : decode cX11_find 50 = .ok (.iconst 1, 1) := by decide +kernel
theorem dX11_find_51 : decode cX11_find 51 = .ok (.goto 4, 3) := by decide +kernel
theorem dX11_find_54 : decode cX11_find 54 = .ok (.iconst 0, 1) := by decide +kernel
theorem dX11_find_55 : decode cX11_find 55 = .ok (.istore_n 1, 1) := by decide +kernel
theorem dX11_find_56 : decode cX11_find 56 = .ok (.iinc 2 1, 3) := by decide +kernel
theorem dX11_find_59 : decode cX11_find 59 = .ok (.goto (-30), 3) := by decide +kernel
theorem dX11_find_62 : decode cX11_find 62 = .ok (.iload_n 1, 1) := by decide +kernel
theorem dX11_find_63 : decode cX11_find 63 = .ok (.ifCond .eq 26, 3) := by decide +kernel
theorem dX11_find_66 : decode cX11_find 66 = .ok (.aload_n 0, 1) := by decide +kernel
theorem dX11_find_67 : decode cX11_find 67 = .ok (.getfield 22, 3) := by decide +kernel
theorem dX11_find_70 : decode cX11_find 70 = .ok (.aload_n 0, 1) := by decide +kernel
theorem dX11_find_71 : decode cX11_find 71 = .ok (.getfield 207, 3) := by decide +kernel
theorem dX11_find_74 : decode cX11_find 74 = .ok (.aload_n 0, 1) := by decide +kernel
theorem dX11_find_75 : decode cX11_find 75 = .ok (.getfield 41, 3) := by decide +kernel
theorem dX11_find_78 : decode cX11_find 78 = .ok (.iconst 0, 1) := by decide +kernel
theorem dX11_find_79 : decode cX11_find 79 = .ok (.aload_n 0, 1) := by decide +kernel
theorem dX11_find_80 : decode cX11_find 80 = .ok (.getfield 75, 3) := by decide +kernel
theorem dX11_find_83 : decode cX11_find 83 = .ok (.invokestatic 143, 3) := by decide +kernel
theorem dX11_find_86 : decode cX11_find 86 = .ok (.goto 4, 3) := by decide +kernel
theorem dX11_find_89 : decode cX11_find 89 = .ok (.iconst (-1), 1) := by decide +kernel
theorem dX11_find_90 : decode cX11_find 90 = .ok (.istore_n 2, 1) := by decide +kernel
theorem dX11_find_91 : decode cX11_find 91 = .ok (.aload_n 0, 1) := by decide +kernel
theorem dX11_find_92 : decode cX11_find 92 = .ok (.iconst 0, 1) := by decide +kernel
theorem dX11_find_93 : decode cX11_find 93 = .ok (.putfield 75, 3) := by decide +kernel
theorem dX11_find_96 : decode cX11_find 96 = .ok (.aload_n 0, 1) := by decide +kernel
theorem dX11_find_97 : decode cX11_find 97 = .ok (.iload_n 2, 1) := by decide +kernel
theorem dX11_find_98 : decode cX11_find 98 = .ok (.iconst (-1), 1) := by decide +kernel
theorem dX11_find_99 : decode cX11_find 99 = .ok (.if_icmp .eq 7, 3) := by decide +kernel
theorem dX11_find_102 : decode cX11_find 102 = .ok (.iconst 1, 1) := by decide +kernel
theorem dX11_find_103 : decode cX11_find 103 = .ok (.goto 4, 3) := by decide +kernel
theorem dX11_find_106 : decode cX11_find 106 = .ok (.iconst 0, 1) := by decide +kernel
theorem dX11_find_107 : decode cX11_find 107 = .ok (.iconst 1, 1) := by decide +kernel
theorem dX11_find_108 : decode cX11_find 108 = .ok (.invokevirtual 78, 3) := by decide +kernel
theorem dX11_find_111 : decode cX11_find 111 = .ok (.ifCond .eq 7, 3) := by decide +kernel
theorem dX11_find_114 : decode cX11_find 114 = .ok (.iload_n 2, 1) := by decide +kernel
theorem dX11_find_115 : decode cX11_find 115 = .ok (.goto 4, 3) := by decide +kernel
theorem dX11_find_118 : decode cX11_find 118 = .ok (.iconst 0, 1) := by decide +kernel
theorem dX11_find_119 : decode cX11_find 119 = .ok (.ireturn, 1) := by decide +kernel
theorem dX11_steady_0 : decode cX11_steady 0 = .ok (.aload_n 0, 1) := by decide +kernel
theorem dX11_steady_1 : decode cX11_steady 1 = .ok (.getfield 7, 3) := by decide +kernel
theorem dX11_steady_4 : decode cX11_steady 4 = .ok (.iconst 4, 1) := by decide +kernel
theorem dX11_steady_5 : decode cX11_steady 5 = .ok (.iload_n 1, 1) := by decide +kernel
theorem dX11_steady_6 : decode cX11_steady 6 = .ok (.imul, 1) := by decide +kernel
theorem dX11_steady_7 : decode cX11_steady 7 = .ok (.iaload, 1) := by decide +kernel
theorem dX11_steady_8 : decode cX11_steady 8 = .ok (.ireturn, 1) := by decide +kernel
theorem dX11_inrush_0 : decode cX11_inrush 0 = .ok (.aload_n 0, 1) := by decide +kernel
theorem dX11_inrush_1 : decode cX11_inrush 1 = .ok (.getfield 7, 3) := by decide +kernel
theorem dX11_inrush_4 : decode cX11_inrush 4 = .ok (.iconst 4, 1) := by decide +kernel
theorem dX11_inrush_5 : decode cX11_inrush 5 = .ok (.iload_n 1, 1) := by decide +kernel
theorem dX11_inrush_6 : decode cX11_inrush 6 = .ok (.imul, 1) := by decide +kernel
theorem dX11_inrush_7 : decode cX11_inrush 7 = .ok (.iconst 1, 1) := by decide +kernel
theorem dX11_inrush_8 : decode cX11_inrush 8 = .ok (.iadd, 1) := by decide +kernel
theorem dX11_inrush_9 : decode cX11_inrush 9 = .ok (.iaload, 1) := by decide +kernel
theorem dX11_inrush_10 : decode cX11_inrush 10 = .ok (.ireturn, 1) := by decide +kernel
theorem dX11_peak_0 : decode cX11_peak 0 = .ok (.aload_n 0, 1) := by decide +kernel
theorem dX11_peak_1 : decode cX11_peak 1 = .ok (.getfield 7, 3) := by decide +kernel
theorem dX11_peak_4 : decode cX11_peak 4 = .ok (.iconst 4, 1) := by decide +kernel
theorem dX11_peak_5 : decode cX11_peak 5 = .ok (.iload_n 1, 1) := by decide +kernel
theorem dX11_peak_6 : decode cX11_peak 6 = .ok (.imul, 1) := by decide +kernel
theorem dX11_peak_7 : decode cX11_peak 7 = .ok (.iconst 2, 1) := by decide +kernel
theorem dX11_peak_8 : decode cX11_peak 8 = .ok (.iadd, 1) := by decide +kernel
theorem dX11_peak_9 : decode cX11_peak 9 = .ok (.iaload, 1) := by decide +kernel
theorem dX11_peak_10 : decode cX11_peak 10 = .ok (.ireturn, 1) := by decide +kernel
theorem dX11_draw_0 : decode cX11_draw 0 = .ok (.aload_n 1, 1) := by decide +kernel
theorem dX11_draw_1 : decode cX11_draw 1 = .ok (.iload_n 2, 1) := by decide +kernel
theorem dX11_draw_2 : decode cX11_draw 2 = .ok (.iconst 2, 1) := by decide +kernel
theorem dX11_draw_3 : decode cX11_draw 3 = .ok (.invokestatic 157, 3) := by decide +kernel
theorem dX11_draw_6 : decode cX11_draw 6 = .ok (.iaload, 1) := by decide +kernel
theorem dX11_draw_7 : decode cX11_draw 7 = .ok (.istore_n 3, 1) := by decide +kernel
theorem dX11_draw_8 : decode cX11_draw 8 = .ok (.iload_n 3, 1) := by decide +kernel
theorem dX11_draw_9 : decode cX11_draw 9 = .ok (.iconst 2, 1) := by decide +kernel
theorem dX11_draw_10 : decode cX11_draw 10 = .ok (.if_icmp .ne 11, 3) := by decide +kernel
theorem dX11_draw_13 : decode cX11_draw 13 = .ok (.aload_n 0, 1) := by decide +kernel
theorem dX11_draw_14 : decode cX11_draw 14 = .ok (.iload_n 2, 1) := by decide +kernel
theorem dX11_draw_15 : decode cX11_draw 15 = .ok (.invokevirtual 222, 3) := by decide +kernel
theorem dX11_draw_18 : decode cX11_draw 18 = .ok (.goto 17, 3) := by decide +kernel
theorem dX11_draw_21 : decode cX11_draw 21 = .ok (.iload_n 3, 1) := by decide +kernel
theorem dX11_draw_22 : decode cX11_draw 22 = .ok (.iconst 3, 1) := by decide +kernel
theorem dX11_draw_23 : decode cX11_draw 23 = .ok (.if_icmp .ne 11, 3) := by decide +kernel
theorem dX11_draw_26 : decode cX11_draw 26 = .ok (.aload_n 0, 1) := by decide +kernel
theorem dX11_draw_27 : decode cX11_draw 27 = .ok (.iload_n 2, 1) := by decide +kernel
theorem dX11_draw_28 : decode cX11_draw 28 = .ok (.invokevirtual 225, 3) := by decide +kernel
theorem dX11_draw_31 : decode cX11_draw 31 = .ok (.goto 4, 3) := by decide +kernel
theorem dX11_draw_34 : decode cX11_draw 34 = .ok (.iconst 0, 1) := by decide +kernel
theorem dX11_draw_35 : decode cX11_draw 35 = .ok (.ireturn, 1) := by decide +kernel
theorem dX11_drawn_0 : decode cX11_drawn 0 = .ok (.iconst 0, 1) := by decide +kernel
theorem dX11_drawn_1 : decode cX11_drawn 1 = .ok (.istore_n 2, 1) := by decide +kernel
theorem dX11_drawn_2 : decode cX11_drawn 2 = .ok (.iconst 0, 1) := by decide +kernel
theorem dX11_drawn_3 : decode cX11_drawn 3 = .ok (.istore_n 3, 1) := by decide +kernel
theorem dX11_drawn_4 : decode cX11_drawn 4 = .ok (.iload_n 3, 1) := by decide +kernel
theorem dX11_drawn_5 : decode cX11_drawn 5 = .ok (.aload_n 0, 1) := by decide +kernel
theorem dX11_drawn_6 : decode cX11_drawn 6 = .ok (.getfield 207, 3) := by decide +kernel
theorem dX11_drawn_9 : decode cX11_drawn 9 = .ok (.if_icmp .ge 18, 3) := by decide +kernel
theorem dX11_drawn_12 : decode cX11_drawn 12 = .ok (.iload_n 2, 1) := by decide +kernel
theorem dX11_drawn_13 : decode cX11_drawn 13 = .ok (.aload_n 0, 1) := by decide +kernel
theorem dX11_drawn_14 : decode cX11_drawn 14 = .ok (.aload_n 1, 1) := by decide +kernel
theorem dX11_drawn_15 : decode cX11_drawn 15 = .ok (.iload_n 3, 1) := by decide +kernel
theorem dX11_drawn_16 : decode cX11_drawn 16 = .ok (.invokevirtual 228, 3) := by decide +kernel
theorem dX11_drawn_19 : decode cX11_drawn 19 = .ok (.iadd, 1) := by decide +kernel
theorem dX11_drawn_20 : decode cX11_drawn 20 = .ok (.istore_n 2, 1) := by decide +kernel
theorem dX11_drawn_21 : decode cX11_drawn 21 = .ok (.iinc 3 1, 3) := by decide +kernel
theorem dX11_drawn_24 : decode cX11_drawn 24 = .ok (.goto (-20), 3) := by decide +kernel
theorem dX11_drawn_27 : decode cX11_drawn 27 = .ok (.iload_n 2, 1) := by decide +kernel
theorem dX11_drawn_28 : decode cX11_drawn 28 = .ok (.ireturn, 1) := by decide +kernel
theorem dX11_expected_0 : decode cX11_expected 0 = .ok (.aload_n 1, 1) := by decide +kernel
theorem dX11_expected_1 : decode cX11_expected 1 = .ok (.iload_n 2, 1) := by decide +kernel
theorem dX11_expected_2 : decode cX11_expected 2 = .ok (.bipush 11, 2) := by decide +kernel
theorem dX11_expected_4 : decode cX11_expected 4 = .ok (.invokestatic 157, 3) := by decide +kernel
theorem dX11_expected_7 : decode cX11_expected 7 = .ok (.iaload, 1) := by decide +kernel
theorem dX11_expected_8 : decode cX11_expected 8 = .ok (.iconst 1, 1) := by decide +kernel
theorem dX11_expected_9 : decode cX11_expected 9 = .ok (.if_icmp .ne 11, 3) := by decide +kernel
theorem dX11_expected_12 : decode cX11_expected 12 = .ok (.aload_n 0, 1) := by decide +kernel
theorem dX11_expected_13 : decode cX11_expected 13 = .ok (.iload_n 2, 1) := by decide +kernel
theorem dX11_expected_14 : decode cX11_expected 14 = .ok (.invokevirtual 222, 3) := by decide +kernel
theorem dX11_expected_17 : decode cX11_expected 17 = .ok (.goto 8, 3) := by decide +kernel
theorem dX11_expected_20 : decode cX11_expected 20 = .ok (.aload_n 0, 1) := by decide +kernel
theorem dX11_expected_21 : decode cX11_expected 21 = .ok (.iload_n 2, 1) := by decide +kernel
theorem dX11_expected_22 : decode cX11_expected 22 = .ok (.invokevirtual 232, 3) := by decide +kernel
theorem dX11_expected_25 : decode cX11_expected 25 = .ok (.ireturn, 1) := by decide +kernel
theorem dX11_reserved_0 : decode cX11_reserved 0 = .ok (.aload_n 1, 1) := by decide +kernel
theorem dX11_reserved_1 : decode cX11_reserved 1 = .ok (.iload_n 2, 1) := by decide +kernel
theorem dX11_reserved_2 : decode cX11_reserved 2 = .ok (.bipush 9, 2) := by decide +kernel
theorem dX11_reserved_4 : decode cX11_reserved 4 = .ok (.invokestatic 157, 3) := by decide +kernel
theorem dX11_reserved_7 : decode cX11_reserved 7 = .ok (.iaload, 1) := by decide +kernel
theorem dX11_reserved_8 : decode cX11_reserved 8 = .ok (.istore_n 3, 1) := by decide +kernel
theorem dX11_reserved_9 : decode cX11_reserved 9 = .ok (.iload_n 3, 1) := by decide +kernel
theorem dX11_reserved_10 : decode cX11_reserved 10 = .ok (.iconst 2, 1) := by decide +kernel
theorem dX11_reserved_11 : decode cX11_reserved 11 = .ok (.if_icmp .ne 12, 3) := by decide +kernel
theorem dX11_reserved_14 : decode cX11_reserved 14 = .ok (.aload_n 0, 1) := by decide +kernel
theorem dX11_reserved_15 : decode cX11_reserved 15 = .ok (.aload_n 1, 1) := by decide +kernel
theorem dX11_reserved_16 : decode cX11_reserved 16 = .ok (.iload_n 2, 1) := by decide +kernel
theorem dX11_reserved_17 : decode cX11_reserved 17 = .ok (.invokevirtual 235, 3) := by decide +kernel
theorem dX11_reserved_20 : decode cX11_reserved 20 = .ok (.goto 17, 3) := by decide +kernel
theorem dX11_reserved_23 : decode cX11_reserved 23 = .ok (.iload_n 3, 1) := by decide +kernel
theorem dX11_reserved_24 : decode cX11_reserved 24 = .ok (.iconst 3, 1) := by decide +kernel
theorem dX11_reserved_25 : decode cX11_reserved 25 = .ok (.if_icmp .ne 11, 3) := by decide +kernel
theorem dX11_reserved_28 : decode cX11_reserved 28 = .ok (.aload_n 0, 1) := by decide +kernel
theorem dX11_reserved_29 : decode cX11_reserved 29 = .ok (.iload_n 2, 1) := by decide +kernel
theorem dX11_reserved_30 : decode cX11_reserved 30 = .ok (.invokevirtual 225, 3) := by decide +kernel
theorem dX11_reserved_33 : decode cX11_reserved 33 = .ok (.goto 4, 3) := by decide +kernel
theorem dX11_reserved_36 : decode cX11_reserved 36 = .ok (.iconst 0, 1) := by decide +kernel
theorem dX11_reserved_37 : decode cX11_reserved 37 = .ok (.ireturn, 1) := by decide +kernel
theorem dX11_reservedAll_0 : decode cX11_reservedAll 0 = .ok (.iconst 0, 1) := by decide +kernel
theorem dX11_reservedAll_1 : decode cX11_reservedAll 1 = .ok (.istore_n 2, 1) := by decide +kernel
theorem dX11_reservedAll_2 : decode cX11_reservedAll 2 = .ok (.iconst 0, 1) := by decide +kernel
theorem dX11_reservedAll_3 : decode cX11_reservedAll 3 = .ok (.istore_n 3, 1) := by decide +kernel
theorem dX11_reservedAll_4 : decode cX11_reservedAll 4 = .ok (.iload_n 3, 1) := by decide +kernel
theorem dX11_reservedAll_5 : decode cX11_reservedAll 5 = .ok (.aload_n 0, 1) := by decide +kernel
theorem dX11_reservedAll_6 : decode cX11_reservedAll 6 = .ok (.getfield 207, 3) := by decide +kernel
theorem dX11_reservedAll_9 : decode cX11_reservedAll 9 = .ok (.if_icmp .ge 18, 3) := by decide +kernel
theorem dX11_reservedAll_12 : decode cX11_reservedAll 12 = .ok (.iload_n 2, 1) := by decide +kernel
theorem dX11_reservedAll_13 : decode cX11_reservedAll 13 = .ok (.aload_n 0, 1) := by decide +kernel
theorem dX11_reservedAll_14 : decode cX11_reservedAll 14 = .ok (.aload_n 1, 1) := by decide +kernel
theorem dX11_reservedAll_15 : decode cX11_reservedAll 15 = .ok (.iload_n 3, 1) := by decide +kernel
theorem dX11_reservedAll_16 : decode cX11_reservedAll 16 = .ok (.invokevirtual 238, 3) := by decide +kernel
theorem dX11_reservedAll_19 : decode cX11_reservedAll 19 = .ok (.iadd, 1) := by decide +kernel
theorem dX11_reservedAll_20 : decode cX11_reservedAll 20 = .ok (.istore_n 2, 1) := by decide +kernel
theorem dX11_reservedAll_21 : decode cX11_reservedAll 21 = .ok (.iinc 3 1, 3) := by decide +kernel
theorem dX11_reservedAll_24 : decode cX11_reservedAll 24 = .ok (.goto (-20), 3) := by decide +kernel
theorem dX11_reservedAll_27 : decode cX11_reservedAll 27 = .ok (.iload_n 2, 1) := by decide +kernel
theorem dX11_reservedAll_28 : decode cX11_reservedAll 28 = .ok (.ireturn, 1) := by decide +kernel
theorem dX11_rightsOf_0 : decode cX11_rightsOf 0 = .ok (.iconst 0, 1) := by decide +kernel
theorem dX11_rightsOf_1 : decode cX11_rightsOf 1 = .ok (.istore_n 2, 1) := by decide +kernel
theorem dX11_rightsOf_2 : decode cX11_rightsOf 2 = .ok (.iconst 0, 1) := by decide +kernel
theorem dX11_rightsOf_3 : decode cX11_rightsOf 3 = .ok (.istore_n 3, 1) := by decide +kernel
theorem dX11_rightsOf_4 : decode cX11_rightsOf 4 = .ok (.iload_n 3, 1) := by decide +kernel
theorem dX11_rightsOf_5 : decode cX11_rightsOf 5 = .ok (.aload_n 0, 1) := by decide +kernel
theorem dX11_rightsOf_6 : decode cX11_rightsOf 6 = .ok (.getfield 207, 3) := by decide +kernel
theorem dX11_rightsOf_9 : decode cX11_rightsOf 9 = .ok (.if_icmp .ge 73, 3) := by decide +kernel
theorem dX11_rightsOf_12 : decode cX11_rightsOf 12 = .ok (.iconst 0, 1) := by decide +kernel
theorem dX11_rightsOf_13 : decode cX11_rightsOf 13 = .ok (.istore 4, 2) := by decide +kernel
theorem dX11_rightsOf_15 : decode cX11_rightsOf 15 = .ok (.iload 4, 2) := by decide +kernel
theorem dX11_rightsOf_17 : decode cX11_rightsOf 17 = .ok (.aload_n 0, 1) := by decide +kernel
theorem dX11_rightsOf_18 : decode cX11_rightsOf 18 = .ok (.getfield 207, 3) := by decide +kernel
theorem dX11_rightsOf_21 : decode cX11_rightsOf 21 = .ok (.if_icmp .ge 55, 3) := by decide +kernel
theorem dX11_rightsOf_24 : decode cX11_rightsOf 24 = .ok (.aload_n 1, 1) := by decide +kernel
theorem dX11_rightsOf_25 : decode cX11_rightsOf 25 = .ok (.iload 4, 2) := by decide +kernel
theorem dX11_rightsOf_27 : decode cX11_rightsOf 27 = .ok (.iconst 1, 1) := by decide +kernel
theorem dX11_rightsOf_28 : decode cX11_rightsOf 28 = .ok (.invokestatic 157, 3) := by decide +kernel
theorem dX11_rightsOf_31 : decode cX11_rightsOf 31 = .ok (.iaload, 1) := by decide +kernel
theorem dX11_rightsOf_32 : decode cX11_rightsOf 32 = .ok (.iconst 1, 1) := by decide +kernel
theorem dX11_rightsOf_33 : decode cX11_rightsOf 33 = .ok (.if_icmp .ne 37, 3) := by decide +kernel
theorem dX11_rightsOf_36 : decode cX11_rightsOf 36 = .ok (.aload_n 0, 1) := by decide +kernel
theorem dX11_rightsOf_37 : decode cX11_rightsOf 37 = .ok (.iload 4, 2) := by decide +kernel
theorem dX11_rightsOf_39 : decode cX11_rightsOf 39 = .ok (.invokevirtual 232, 3) := by decide +kernel
theorem dX11_rightsOf_42 : decode cX11_rightsOf 42 = .ok (.aload_n 1, 1) := by decide +kernel
theorem dX11_rightsOf_43 : decode cX11_rightsOf 43 = .ok (.bipush 6, 2) := by decide +kernel
theorem dX11_rightsOf_45 : decode cX11_rightsOf 45 = .ok (.iaload, 1) := by decide +kernel
theorem dX11_rightsOf_46 : decode cX11_rightsOf 46 = .ok (.if_icmp .gt 24, 3) := by decide +kernel
theorem dX11_rightsOf_49 : decode cX11_rightsOf 49 = .ok (.aload_n 0, 1) := by decide +kernel
theorem dX11_rightsOf_50 : decode cX11_rightsOf 50 = .ok (.getfield 13, 3) := by decide +kernel
theorem dX11_rightsOf_53 : decode cX11_rightsOf 53 = .ok (.iload 4, 2) := by decide +kernel
theorem dX11_rightsOf_55 : decode cX11_rightsOf 55 = .ok (.iaload, 1) := by decide +kernel
theorem dX11_rightsOf_56 : decode cX11_rightsOf 56 = .ok (.iload_n 2, 1) := by decide +kernel
theorem dX11_rightsOf_57 : decode cX11_rightsOf 57 = .ok (.iconst (-1), 1) := by decide +kernel
theorem dX11_rightsOf_58 : decode cX11_rightsOf 58 = .ok (.ixor, 1) := by decide +kernel
theorem dX11_rightsOf_59 : decode cX11_rightsOf 59 = .ok (.iand, 1) := by decide +kernel
theorem dX11_rightsOf_60 : decode cX11_rightsOf 60 = .ok (.ifCond .ne 10, 3) := by decide +kernel
theorem dX11_rightsOf_63 : decode cX11_rightsOf 63 = .ok (.iload_n 2, 1) := by decide +kernel
theorem dX11_rightsOf_64 : decode cX11_rightsOf 64 = .ok (.iconst 1, 1) := by decide +kernel
theorem dX11_rightsOf_65 : decode cX11_rightsOf 65 = .ok (.iload 4, 2) := by decide +kernel
theorem dX11_rightsOf_67 : decode cX11_rightsOf 67 = .ok (.ishl, 1) := by decide +kernel
theorem dX11_rightsOf_68 : decode cX11_rightsOf 68 = .ok (.ior, 1) := by decide +kernel
theorem dX11_rightsOf_69 : decode cX11_rightsOf 69 = .ok (.istore_n 2, 1) := by decide +kernel
theorem dX11_rightsOf_70 : decode cX11_rightsOf 70 = .ok (.iinc 4 1, 3) := by decide +kernel
theorem dX11_rightsOf_73 : decode cX11_rightsOf 73 = .ok (.goto (-58), 3) := by decide +kernel
theorem dX11_rightsOf_76 : decode cX11_rightsOf 76 = .ok (.iinc 3 1, 3) := by decide +kernel
theorem dX11_rightsOf_79 : decode cX11_rightsOf 79 = .ok (.goto (-75), 3) := by decide +kernel
theorem dX11_rightsOf_82 : decode cX11_rightsOf 82 = .ok (.iload_n 2, 1) := by decide +kernel
theorem dX11_rightsOf_83 : decode cX11_rightsOf 83 = .ok (.ireturn, 1) := by decide +kernel
theorem dX11_withState_0 : decode cX11_withState 0 = .ok (.iconst 0, 1) := by decide +kernel
theorem dX11_withState_1 : decode cX11_withState 1 = .ok (.istore 4, 2) := by decide +kernel
theorem dX11_withState_3 : decode cX11_withState 3 = .ok (.iconst 0, 1) := by decide +kernel
theorem dX11_withState_4 : decode cX11_withState 4 = .ok (.istore 5, 2) := by decide +kernel
theorem dX11_withState_6 : decode cX11_withState 6 = .ok (.iload 5, 2) := by decide +kernel
theorem dX11_withState_8 : decode cX11_withState 8 = .ok (.aload_n 0, 1) := by decide +kernel
theorem dX11_withState_9 : decode cX11_withState 9 = .ok (.getfield 207, 3) := by decide +kernel
theorem dX11_withState_12 : decode cX11_withState 12 = .ok (.if_icmp .ge 30, 3) := by decide +kernel
theorem dX11_withState_15 : decode cX11_withState 15 = .ok (.aload_n 1, 1) := by decide +kernel
theorem dX11_withState_16 : decode cX11_withState 16 = .ok (.iload 5, 2) := by decide +kernel
theorem dX11_withState_18 : decode cX11_withState 18 = .ok (.iload_n 2, 1) := by decide +kernel
theorem dX11_withState_19 : decode cX11_withState 19 = .ok (.invokestatic 157, 3) := by decide +kernel
theorem dX11_withState_22 : decode cX11_withState 22 = .ok (.iaload, 1) := by decide +kernel
theorem dX11_withState_23 : decode cX11_withState 23 = .ok (.iload_n 3, 1) := by decide +kernel
theorem dX11_withState_24 : decode cX11_withState 24 = .ok (.if_icmp .ne 12, 3) := by decide +kernel
theorem dX11_withState_27 : decode cX11_withState 27 = .ok (.iload 4, 2) := by decide +kernel
theorem dX11_withState_29 : decode cX11_withState 29 = .ok (.iconst 1, 1) := by decide +kernel
theorem dX11_withState_30 : decode cX11_withState 30 = .ok (.iload 5, 2) := by decide +kernel
theorem dX11_withState_32 : decode cX11_withState 32 = .ok (.ishl, 1) := by decide +kernel
theorem dX11_withState_33 : decode cX11_withState 33 = .ok (.ior, 1) := by decide +kernel
theorem dX11_withState_34 : decode cX11_withState 34 = .ok (.istore 4, 2) := by decide +kernel
theorem dX11_withState_36 : decode cX11_withState 36 = .ok (.iinc 5 1, 3) := by decide +kernel
theorem dX11_withState_39 : decode cX11_withState 39 = .ok (.goto (-33), 3) := by decide +kernel
theorem dX11_withState_42 : decode cX11_withState 42 = .ok (.iload 4, 2) := by decide +kernel
theorem dX11_withState_44 : decode cX11_withState 44 = .ok (.ireturn, 1) := by decide +kernel
theorem dX11_isDark_0 : decode cX11_isDark 0 = .ok (.aload_n 1, 1) := by decide +kernel
theorem dX11_isDark_1 : decode cX11_isDark 1 = .ok (.iconst 0, 1) := by decide +kernel
theorem dX11_isDark_2 : decode cX11_isDark 2 = .ok (.iaload, 1) := by decide +kernel
theorem dX11_isDark_3 : decode cX11_isDark 3 = .ok (.aload_n 1, 1) := by decide +kernel
theorem dX11_isDark_4 : decode cX11_isDark 4 = .ok (.iconst 1, 1) := by decide +kernel
theorem dX11_isDark_5 : decode cX11_isDark 5 = .ok (.iaload, 1) := by decide +kernel
theorem dX11_isDark_6 : decode cX11_isDark 6 = .ok (.if_icmp .ge 7, 3) := by decide +kernel
theorem dX11_isDark_9 : decode cX11_isDark 9 = .ok (.iconst 1, 1) := by decide +kernel
theorem dX11_isDark_10 : decode cX11_isDark 10 = .ok (.goto 4, 3) := by decide +kernel
theorem dX11_isDark_13 : decode cX11_isDark 13 = .ok (.iconst 0, 1) := by decide +kernel
theorem dX11_isDark_14 : decode cX11_isDark 14 = .ok (.ireturn, 1) := by decide +kernel
theorem dX11_sends_0 : decode cX11_sends 0 = .ok (.aload_n 1, 1) := by decide +kernel
theorem dX11_sends_1 : decode cX11_sends 1 = .ok (.iconst 4, 1) := by decide +kernel
theorem dX11_sends_2 : decode cX11_sends 2 = .ok (.iaload, 1) := by decide +kernel
theorem dX11_sends_3 : decode cX11_sends 3 = .ok (.istore 5, 2) := by decide +kernel
theorem dX11_sends_5 : decode cX11_sends 5 = .ok (.aload_n 1, 1) := by decide +kernel
theorem dX11_sends_6 : decode cX11_sends 6 = .ok (.iconst 4, 1) := by decide +kernel
theorem dX11_sends_7 : decode cX11_sends 7 = .ok (.dup2, 1) := by decide +kernel
theorem dX11_sends_8 : decode cX11_sends 8 = .ok (.iaload, 1) := by decide +kernel
theorem dX11_sends_9 : decode cX11_sends 9 = .ok (.iconst 1, 1) := by decide +kernel
theorem dX11_sends_10 : decode cX11_sends 10 = .ok (.iadd, 1) := by decide +kernel
theorem dX11_sends_11 : decode cX11_sends 11 = .ok (.iastore, 1) := by decide +kernel
theorem dX11_sends_12 : decode cX11_sends 12 = .ok (.aload_n 1, 1) := by decide +kernel
theorem dX11_sends_13 : decode cX11_sends 13 = .ok (.bipush 15, 2) := by decide +kernel
theorem dX11_sends_15 : decode cX11_sends 15 = .ok (.iload_n 2, 1) := by decide +kernel
theorem dX11_sends_16 : decode cX11_sends 16 = .ok (.iadd, 1) := by decide +kernel
theorem dX11_sends_17 : decode cX11_sends 17 = .ok (.dup2, 1) := by decide +kernel
theorem dX11_sends_18 : decode cX11_sends 18 = .ok (.iaload, 1) := by decide +kernel
theorem dX11_sends_19 : decode cX11_sends 19 = .ok (.iconst 1, 1) := by decide +kernel
theorem dX11_sends_20 : decode cX11_sends 20 = .ok (.iadd, 1) := by decide +kernel
theorem dX11_sends_21 : decode cX11_sends 21 = .ok (.iastore, 1) := by decide +kernel
theorem dX11_sends_22 : decode cX11_sends 22 = .ok (.aload_n 0, 1) := by decide +kernel
theorem dX11_sends_23 : decode cX11_sends 23 = .ok (.getfield 213, 3) := by decide +kernel
theorem dX11_sends_26 : decode cX11_sends 26 = .ok (.ifCond .le 44, 3) := by decide +kernel
theorem dX11_sends_29 : decode cX11_sends 29 = .ok (.aload_n 1, 1) := by decide +kernel
theorem dX11_sends_30 : decode cX11_sends 30 = .ok (.bipush 14, 2) := by decide +kernel
theorem dX11_sends_32 : decode cX11_sends 32 = .ok (.iaload, 1) := by decide +kernel
theorem dX11_sends_33 : decode cX11_sends 33 = .ok (.ifCond .ne 37, 3) := by decide +kernel
theorem dX11_sends_36 : decode cX11_sends 36 = .ok (.aload_n 0, 1) := by decide +kernel
theorem dX11_sends_37 : decode cX11_sends 37 = .ok (.getfield 16, 3) := by decide +kernel
theorem dX11_sends_40 : decode cX11_sends 40 = .ok (.iload 5, 2) := by decide +kernel
theorem dX11_sends_42 : decode cX11_sends 42 = .ok (.aload_n 0, 1) := by decide +kernel
theorem dX11_sends_43 : decode cX11_sends 43 = .ok (.getfield 213, 3) := by decide +kernel
theorem dX11_sends_46 : decode cX11_sends 46 = .ok (.irem, 1) := by decide +kernel
theorem dX11_sends_47 : decode cX11_sends 47 = .ok (.iaload, 1) := by decide +kernel
theorem dX11_sends_48 : decode cX11_sends 48 = .ok (.iconst 1, 1) := by decide +kernel
theorem dX11_sends_49 : decode cX11_sends 49 = .ok (.if_icmp .ne 21, 3) := by decide +kernel
theorem dX11_sends_52 : decode cX11_sends 52 = .ok (.aload_n 1, 1) := by decide +kernel
theorem dX11_sends_53 : decode cX11_sends 53 = .ok (.iconst 5, 1) := by decide +kernel
theorem dX11_sends_54 : decode cX11_sends 54 = .ok (.dup2, 1) := by decide +kernel
theorem dX11_sends_55 : decode cX11_sends 55 = .ok (.iaload, 1) := by decide +kernel
theorem dX11_sends_56 : decode cX11_sends 56 = .ok (.iconst 1, 1) := by decide +kernel
theorem dX11_sends_57 : decode cX11_sends 57 = .ok (.iadd, 1) := by decide +kernel
theorem dX11_sends_58 : decode cX11_sends 58 = .ok (.iastore, 1) := by decide +kernel
theorem dX11_sends_59 : decode cX11_sends 59 = .ok (.aload_n 1, 1) := by decide +kernel
theorem dX11_sends_60 : decode cX11_sends 60 = .ok (.bipush 21, 2) := by decide +kernel
theorem dX11_sends_62 : decode cX11_sends 62 = .ok (.iload_n 2, 1) := by decide +kernel
theorem dX11_sends_63 : decode cX11_sends 63 = .ok (.iadd, 1) := by decide +kernel
theorem dX11_sends_64 : decode cX11_sends 64 = .ok (.dup2, 1) := by decide +kernel
theorem dX11_sends_65 : decode cX11_sends 65 = .ok (.iaload, 1) := by decide +kernel
theorem dX11_sends_66 : decode cX11_sends 66 = .ok (.iconst 1, 1) := by decide +kernel
theorem dX11_sends_67 : decode cX11_sends 67 = .ok (.iadd, 1) := by decide +kernel
theorem dX11_sends_68 : decode cX11_sends 68 = .ok (.iastore, 1) := by decide +kernel
theorem dX11_sends_69 : decode cX11_sends 69 = .ok (.return_, 1) := by decide +kernel
theorem dX11_sends_70 : decode cX11_sends 70 = .ok (.sipush 195, 3) := by decide +kernel
theorem dX11_sends_73 : decode cX11_sends 73 = .ok (.iconst 3, 1) := by decide +kernel
theorem dX11_sends_74 : decode cX11_sends 74 = .ok (.aload_n 1, 1) := by decide +kernel
theorem dX11_sends_75 : decode cX11_sends 75 = .ok (.bipush 11, 2) := by decide +kernel
theorem dX11_sends_77 : decode cX11_sends 77 = .ok (.iaload, 1) := by decide +kernel
theorem dX11_sends_78 : decode cX11_sends 78 = .ok (.imul, 1) := by decide +kernel
theorem dX11_sends_79 : decode cX11_sends 79 = .ok (.iadd, 1) := by decide +kernel
theorem dX11_sends_80 : decode cX11_sends 80 = .ok (.istore 6, 2) := by decide +kernel
theorem dX11_sends_82 : decode cX11_sends 82 = .ok (.aload_n 1, 1) := by decide +kernel
theorem dX11_sends_83 : decode cX11_sends 83 = .ok (.iload 6, 2) := by decide +kernel
theorem dX11_sends_85 : decode cX11_sends 85 = .ok (.iload_n 2, 1) := by decide +kernel
theorem dX11_sends_86 : decode cX11_sends 86 = .ok (.iastore, 1) := by decide +kernel
theorem dX11_sends_87 : decode cX11_sends 87 = .ok (.aload_n 1, 1) := by decide +kernel
theorem dX11_sends_88 : decode cX11_sends 88 = .ok (.iload 6, 2) := by decide +kernel
theorem dX11_sends_90 : decode cX11_sends 90 = .ok (.iconst 1, 1) := by decide +kernel
theorem dX11_sends_91 : decode cX11_sends 91 = .ok (.iadd, 1) := by decide +kernel
theorem dX11_sends_92 : decode cX11_sends 92 = .ok (.iload_n 3, 1) := by decide +kernel
theorem dX11_sends_93 : decode cX11_sends 93 = .ok (.iastore, 1) := by decide +kernel
theorem dX11_sends_94 : decode cX11_sends 94 = .ok (.aload_n 1, 1) := by decide +kernel
theorem dX11_sends_95 : decode cX11_sends 95 = .ok (.iload 6, 2) := by decide +kernel
theorem dX11_sends_97 : decode cX11_sends 97 = .ok (.iconst 2, 1) := by decide +kernel
theorem dX11_sends_98 : decode cX11_sends 98 = .ok (.iadd, 1) := by decide +kernel
theorem dX11_sends_99 : decode cX11_sends 99 = .ok (.iload 4, 2) := by decide +kernel
theorem dX11_sends_101 : decode cX11_sends 101 = .ok (.iastore, 1) := by decide +kernel
theorem dX11_sends_102 : decode cX11_sends 102 = .ok (.aload_n 1, 1) := by decide +kernel
theorem dX11_sends_103 : decode cX11_sends 103 = .ok (.bipush 11, 2) := by decide +kernel
theorem dX11_sends_105 : decode cX11_sends 105 = .ok (.dup2, 1) := by decide +kernel
theorem dX11_sends_106 : decode cX11_sends 106 = .ok (.iaload, 1) := by decide +kernel
theorem dX11_sends_107 : decode cX11_sends 107 = .ok (.iconst 1, 1) := by decide +kernel
theorem dX11_sends_108 : decode cX11_sends 108 = .ok (.iadd, 1) := by decide +kernel
theorem dX11_sends_109 : decode cX11_sends 109 = .ok (.iastore, 1) := by decide +kernel
theorem dX11_sends_110 : decode cX11_sends 110 = .ok (.return_, 1) := by decide +kernel
theorem dX11_darkens_0 : decode cX11_darkens 0 = .ok (.aload_n 1, 1) := by decide +kernel
theorem dX11_darkens_1 : decode cX11_darkens 1 = .ok (.iconst 0, 1) := by decide +kernel
theorem dX11_darkens_2 : decode cX11_darkens 2 = .ok (.iaload, 1) := by decide +kernel
theorem dX11_darkens_3 : decode cX11_darkens 3 = .ok (.iload_n 2, 1) := by decide +kernel
theorem dX11_darkens_4 : decode cX11_darkens 4 = .ok (.iadd, 1) := by decide +kernel
theorem dX11_darkens_5 : decode cX11_darkens 5 = .ok (.istore_n 3, 1) := by decide +kernel
theorem dX11_darkens_6 : decode cX11_darkens 6 = .ok (.aload_n 1, 1) := by decide +kernel
theorem dX11_darkens_7 : decode cX11_darkens 7 = .ok (.iconst 1, 1) := by decide +kernel
theorem dX11_darkens_8 : decode cX11_darkens 8 = .ok (.iload_n 3, 1) := by decide +kernel
theorem dX11_darkens_9 : decode cX11_darkens 9 = .ok (.aload_n 1, 1) := by decide +kernel
theorem dX11_darkens_10 : decode cX11_darkens 10 = .ok (.iconst 1, 1) := by decide +kernel
theorem dX11_darkens_11 : decode cX11_darkens 11 = .ok (.iaload, 1) := by decide +kernel
theorem dX11_darkens_12 : decode cX11_darkens 12 = .ok (.if_icmp .le 7, 3) := by decide +kernel
theorem dX11_darkens_15 : decode cX11_darkens 15 = .ok (.iload_n 3, 1) := by decide +kernel
theorem dX11_darkens_16 : decode cX11_darkens 16 = .ok (.goto 6, 3) := by decide +kernel
theorem dX11_darkens_19 : decode cX11_darkens 19 = .ok (.aload_n 1, 1) := by decide +kernel
theorem dX11_darkens_20 : decode cX11_darkens 20 = .ok (.iconst 1, 1) := by decide +kernel
theorem dX11_darkens_21 : decode cX11_darkens 21 = .ok (.iaload, 1) := by decide +kernel
theorem dX11_darkens_22 : decode cX11_darkens 22 = .ok (.iastore, 1) := by decide +kernel
theorem dX11_darkens_23 : decode cX11_darkens 23 = .ok (.aload_n 1, 1) := by decide +kernel
theorem dX11_darkens_24 : decode cX11_darkens 24 = .ok (.iconst 2, 1) := by decide +kernel
theorem dX11_darkens_25 : decode cX11_darkens 25 = .ok (.dup2, 1) := by decide +kernel
theorem dX11_darkens_26 : decode cX11_darkens 26 = .ok (.iaload, 1) := by decide +kernel
theorem dX11_darkens_27 : decode cX11_darkens 27 = .ok (.iconst 1, 1) := by decide +kernel
theorem dX11_darkens_28 : decode cX11_darkens 28 = .ok (.iadd, 1) := by decide +kernel
theorem dX11_darkens_29 : decode cX11_darkens 29 = .ok (.iastore, 1) := by decide +kernel
theorem dX11_darkens_30 : decode cX11_darkens 30 = .ok (.aload_n 1, 1) := by decide +kernel
theorem dX11_darkens_31 : decode cX11_darkens 31 = .ok (.bipush 11, 2) := by decide +kernel
theorem dX11_darkens_33 : decode cX11_darkens 33 = .ok (.iconst 0, 1) := by decide +kernel
theorem dX11_darkens_34 : decode cX11_darkens 34 = .ok (.iastore, 1) := by decide +kernel
theorem dX11_darkens_35 : decode cX11_darkens 35 = .ok (.aload_n 1, 1) := by decide +kernel
theorem dX11_darkens_36 : decode cX11_darkens 36 = .ok (.bipush 12, 2) := by decide +kernel
theorem dX11_darkens_38 : decode cX11_darkens 38 = .ok (.iconst 0, 1) := by decide +kernel
theorem dX11_darkens_39 : decode cX11_darkens 39 = .ok (.iastore, 1) := by decide +kernel
theorem dX11_darkens_40 : decode cX11_darkens 40 = .ok (.iconst 0, 1) := by decide +kernel
theorem dX11_darkens_41 : decode cX11_darkens 41 = .ok (.istore 4, 2) := by decide +kernel
theorem dX11_darkens_43 : decode cX11_darkens 43 = .ok (.iload 4, 2) := by decide +kernel
theorem dX11_darkens_45 : decode cX11_darkens 45 = .ok (.aload_n 0, 1) := by decide +kernel
theorem dX11_darkens_46 : decode cX11_darkens 46 = .ok (.getfield 207, 3) := by decide +kernel
theorem dX11_darkens_49 : decode cX11_darkens 49 = .ok (.if_icmp .ge 86, 3) := by decide +kernel
theorem dX11_darkens_52 : decode cX11_darkens 52 = .ok (.aload_n 1, 1) := by decide +kernel
theorem dX11_darkens_53 : decode cX11_darkens 53 = .ok (.iload 4, 2) := by decide +kernel
theorem dX11_darkens_55 : decode cX11_darkens 55 = .ok (.iconst 2, 1) := by decide +kernel
theorem dX11_darkens_56 : decode cX11_darkens 56 = .ok (.invokestatic 157, 3) := by decide +kernel
theorem dX11_darkens_59 : decode cX11_darkens 59 = .ok (.aload_n 1, 1) := by decide +kernel
theorem dX11_darkens_60 : decode cX11_darkens 60 = .ok (.iload 4, 2) := by decide +kernel
theorem dX11_darkens_62 : decode cX11_darkens 62 = .ok (.iconst 1, 1) := by decide +kernel
theorem dX11_darkens_63 : decode cX11_darkens 63 = .ok (.invokestatic 157, 3) := by decide +kernel
theorem dX11_darkens_66 : decode cX11_darkens 66 = .ok (.iaload, 1) := by decide +kernel
theorem dX11_darkens_67 : decode cX11_darkens 67 = .ok (.iastore, 1) := by decide +kernel
theorem dX11_darkens_68 : decode cX11_darkens 68 = .ok (.aload_n 1, 1) := by decide +kernel
theorem dX11_darkens_69 : decode cX11_darkens 69 = .ok (.iload 4, 2) := by decide +kernel
theorem dX11_darkens_71 : decode cX11_darkens 71 = .ok (.iconst 3, 1) := by decide +kernel
theorem dX11_darkens_72 : decode cX11_darkens 72 = .ok (.invokestatic 157, 3) := by decide +kernel
theorem dX11_darkens_75 : decode cX11_darkens 75 = .ok (.iconst 0, 1) := by decide +kernel
theorem dX11_darkens_76 : decode cX11_darkens 76 = .ok (.iastore, 1) := by decide +kernel
theorem dX11_darkens_77 : decode cX11_darkens 77 = .ok (.aload_n 1, 1) := by decide +kernel
theorem dX11_darkens_78 : decode cX11_darkens 78 = .ok (.iload 4, 2) := by decide +kernel
theorem dX11_darkens_80 : decode cX11_darkens 80 = .ok (.bipush 6, 2) := by decide +kernel
theorem dX11_darkens_82 : decode cX11_darkens 82 = .ok (.invokestatic 157, 3) := by decide +kernel
theorem dX11_darkens_85 : decode cX11_darkens 85 = .ok (.iconst (-1), 1) := by decide +kernel
theorem dX11_darkens_86 : decode cX11_darkens 86 = .ok (.iastore, 1) := by decide +kernel
theorem dX11_darkens_87 : decode cX11_darkens 87 = .ok (.aload_n 1, 1) := by decide +kernel
theorem dX11_darkens_88 : decode cX11_darkens 88 = .ok (.iload 4, 2) := by decide +kernel
theorem dX11_darkens_90 : decode cX11_darkens 90 = .ok (.bipush 7, 2) := by decide +kernel
theorem dX11_darkens_92 : decode cX11_darkens 92 = .ok (.invokestatic 157, 3) := by decide +kernel
theorem dX11_darkens_95 : decode cX11_darkens 95 = .ok (.iconst 0, 1) := by decide +kernel
theorem dX11_darkens_96 : decode cX11_darkens 96 = .ok (.iastore, 1) := by decide +kernel
theorem dX11_darkens_97 : decode cX11_darkens 97 = .ok (.aload_n 1, 1) := by decide +kernel
theorem dX11_darkens_98 : decode cX11_darkens 98 = .ok (.iload 4, 2) := by decide +kernel
theorem dX11_darkens_100 : decode cX11_darkens 100 = .ok (.bipush 8, 2) := by decide +kernel
theorem dX11_darkens_102 : decode cX11_darkens 102 = .ok (.invokestatic 157, 3) := by decide +kernel
theorem dX11_darkens_105 : decode cX11_darkens 105 = .ok (.iconst 0, 1) := by decide +kernel
theorem dX11_darkens_106 : decode cX11_darkens 106 = .ok (.iastore, 1) := by decide +kernel
theorem dX11_darkens_107 : decode cX11_darkens 107 = .ok (.aload_n 1, 1) := by decide +kernel
theorem dX11_darkens_108 : decode cX11_darkens 108 = .ok (.iload 4, 2) := by decide +kernel
theorem dX11_darkens_110 : decode cX11_darkens 110 = .ok (.bipush 9, 2) := by decide +kernel
theorem dX11_darkens_112 : decode cX11_darkens 112 = .ok (.invokestatic 157, 3) := by decide +kernel
theorem dX11_darkens_115 : decode cX11_darkens 115 = .ok (.iconst 0, 1) := by decide +kernel
theorem dX11_darkens_116 : decode cX11_darkens 116 = .ok (.iastore, 1) := by decide +kernel
theorem dX11_darkens_117 : decode cX11_darkens 117 = .ok (.aload_n 1, 1) := by decide +kernel
theorem dX11_darkens_118 : decode cX11_darkens 118 = .ok (.iload 4, 2) := by decide +kernel
theorem dX11_darkens_120 : decode cX11_darkens 120 = .ok (.bipush 10, 2) := by decide +kernel
theorem dX11_darkens_122 : decode cX11_darkens 122 = .ok (.invokestatic 157, 3) := by decide +kernel
theorem dX11_darkens_125 : decode cX11_darkens 125 = .ok (.aload_n 1, 1) := by decide +kernel
theorem dX11_darkens_126 : decode cX11_darkens 126 = .ok (.iconst 0, 1) := by decide +kernel
theorem dX11_darkens_127 : decode cX11_darkens 127 = .ok (.iaload, 1) := by decide +kernel
theorem dX11_darkens_128 : decode cX11_darkens 128 = .ok (.iastore, 1) := by decide +kernel
theorem dX11_darkens_129 : decode cX11_darkens 129 = .ok (.iinc 4 1, 3) := by decide +kernel
theorem dX11_darkens_132 : decode cX11_darkens 132 = .ok (.goto (-89), 3) := by decide +kernel
theorem dX11_darkens_135 : decode cX11_darkens 135 = .ok (.return_, 1) := by decide +kernel
theorem dX11_marks_0 : decode cX11_marks 0 = .ok (.aload_n 1, 1) := by decide +kernel
theorem dX11_marks_1 : decode cX11_marks 1 = .ok (.iload_n 2, 1) := by decide +kernel
theorem dX11_marks_2 : decode cX11_marks 2 = .ok (.bipush 9, 2) := by decide +kernel
theorem dX11_marks_4 : decode cX11_marks 4 = .ok (.invokestatic 157, 3) := by decide +kernel
theorem dX11_marks_7 : decode cX11_marks 7 = .ok (.iload_n 3, 1) := by decide +kernel
theorem dX11_marks_8 : decode cX11_marks 8 = .ok (.iastore, 1) := by decide +kernel
theorem dX11_marks_9 : decode cX11_marks 9 = .ok (.aload_n 1, 1) := by decide +kernel
theorem dX11_marks_10 : decode cX11_marks 10 = .ok (.iload_n 2, 1) := by decide +kernel
theorem dX11_marks_11 : decode cX11_marks 11 = .ok (.bipush 10, 2) := by decide +kernel
theorem dX11_marks_13 : decode cX11_marks 13 = .ok (.invokestatic 157, 3) := by decide +kernel
theorem dX11_marks_16 : decode cX11_marks 16 = .ok (.aload_n 1, 1) := by decide +kernel
theorem dX11_marks_17 : decode cX11_marks 17 = .ok (.iconst 0, 1) := by decide +kernel
theorem dX11_marks_18 : decode cX11_marks 18 = .ok (.iaload, 1) := by decide +kernel
theorem dX11_marks_19 : decode cX11_marks 19 = .ok (.iastore, 1) := by decide +kernel
theorem dX11_marks_20 : decode cX11_marks 20 = .ok (.iload_n 3, 1) := by decide +kernel
theorem dX11_marks_21 : decode cX11_marks 21 = .ok (.iconst 3, 1) := by decide +kernel
theorem dX11_marks_22 : decode cX11_marks 22 = .ok (.if_icmp .eq 4, 3) := by decide +kernel
theorem dX11_marks_25 : decode cX11_marks 25 = .ok (.return_, 1) := by decide +kernel
theorem dX11_marks_26 : decode cX11_marks 26 = .ok (.aload_n 1, 1) := by decide +kernel
theorem dX11_marks_27 : decode cX11_marks 27 = .ok (.iload_n 2, 1) := by decide +kernel
theorem dX11_marks_28 : decode cX11_marks 28 = .ok (.bipush 11, 2) := by decide +kernel
theorem dX11_marks_30 : decode cX11_marks 30 = .ok (.invokestatic 157, 3) := by decide +kernel
theorem dX11_marks_33 : decode cX11_marks 33 = .ok (.iconst 1, 1) := by decide +kernel
theorem dX11_marks_34 : decode cX11_marks 34 = .ok (.iastore, 1) := by decide +kernel
theorem dX11_marks_35 : decode cX11_marks 35 = .ok (.iconst 0, 1) := by decide +kernel
theorem dX11_marks_36 : decode cX11_marks 36 = .ok (.istore 4, 2) := by decide +kernel
theorem dX11_marks_38 : decode cX11_marks 38 = .ok (.iload 4, 2) := by decide +kernel
theorem dX11_marks_40 : decode cX11_marks 40 = .ok (.aload_n 1, 1) := by decide +kernel
theorem dX11_marks_41 : decode cX11_marks 41 = .ok (.bipush 12, 2) := by decide +kernel
theorem dX11_marks_43 : decode cX11_marks 43 = .ok (.iaload, 1) := by decide +kernel
theorem dX11_marks_44 : decode cX11_marks 44 = .ok (.if_icmp .ge 21, 3) := by decide +kernel
theorem dX11_marks_47 : decode cX11_marks 47 = .ok (.aload_n 1, 1) := by decide +kernel
theorem dX11_marks_48 : decode cX11_marks 48 = .ok (.bipush 27, 2) := by decide +kernel
theorem dX11_marks_50 : decode cX11_marks 50 = .ok (.iload 4, 2) := by decide +kernel
theorem dX11_marks_52 : decode cX11_marks 52 = .ok (.iadd, 1) := by decide +kernel
theorem dX11_marks_53 : decode cX11_marks 53 = .ok (.iaload, 1) := by decide +kernel
theorem dX11_marks_54 : decode cX11_marks 54 = .ok (.iload_n 2, 1) := by decide +kernel
theorem dX11_marks_55 : decode cX11_marks 55 = .ok (.if_icmp .ne 4, 3) := by decide +kernel
theorem dX11_marks_58 : decode cX11_marks 58 = .ok (.return_, 1) := by decide +kernel
theorem dX11_marks_59 : decode cX11_marks 59 = .ok (.iinc 4 1, 3) := by decide +kernel
theorem dX11_marks_62 : decode cX11_marks 62 = .ok (.goto (-24), 3) := by decide +kernel
theorem dX11_marks_65 : decode cX11_marks 65 = .ok (.aload_n 1, 1) := by decide +kernel
theorem dX11_marks_66 : decode cX11_marks 66 = .ok (.bipush 27, 2) := by decide +kernel
theorem dX11_marks_68 : decode cX11_marks 68 = .ok (.aload_n 1, 1) := by decide +kernel
theorem dX11_marks_69 : decode cX11_marks 69 = .ok (.bipush 12, 2) := by decide +kernel
theorem dX11_marks_71 : decode cX11_marks 71 = .ok (.iaload, 1) := by decide +kernel
theorem dX11_marks_72 : decode cX11_marks 72 = .ok (.iadd, 1) := by decide +kernel
theorem dX11_marks_73 : decode cX11_marks 73 = .ok (.iload_n 2, 1) := by decide +kernel
theorem dX11_marks_74 : decode cX11_marks 74 = .ok (.iastore, 1) := by decide +kernel
theorem dX11_marks_75 : decode cX11_marks 75 = .ok (.aload_n 1, 1) := by decide +kernel
theorem dX11_marks_76 : decode cX11_marks 76 = .ok (.bipush 12, 2) := by decide +kernel
theorem dX11_marks_78 : decode cX11_marks 78 = .ok (.dup2, 1) := by decide +kernel
theorem dX11_marks_79 : decode cX11_marks 79 = .ok (.iaload, 1) := by decide +kernel
theorem dX11_marks_80 : decode cX11_marks 80 = .ok (.iconst 1, 1) := by decide +kernel
theorem dX11_marks_81 : decode cX11_marks 81 = .ok (.iadd, 1) := by decide +kernel
theorem dX11_marks_82 : decode cX11_marks 82 = .ok (.iastore, 1) := by decide +kernel
theorem dX11_marks_83 : decode cX11_marks 83 = .ok (.return_, 1) := by decide +kernel
theorem dX11_receives_0 : decode cX11_receives 0 = .ok (.aload_n 1, 1) := by decide +kernel
theorem dX11_receives_1 : decode cX11_receives 1 = .ok (.iload_n 2, 1) := by decide +kernel
theorem dX11_receives_2 : decode cX11_receives 2 = .ok (.iconst 1, 1) := by decide +kernel
theorem dX11_receives_3 : decode cX11_receives 3 = .ok (.iadd, 1) := by decide +kernel
theorem dX11_receives_4 : decode cX11_receives 4 = .ok (.iaload, 1) := by decide +kernel
theorem dX11_receives_5 : decode cX11_receives 5 = .ok (.istore_n 3, 1) := by decide +kernel
theorem dX11_receives_6 : decode cX11_receives 6 = .ok (.aload_n 1, 1) := by decide +kernel
theorem dX11_receives_7 : decode cX11_receives 7 = .ok (.iload_n 3, 1) := by decide +kernel
theorem dX11_receives_8 : decode cX11_receives 8 = .ok (.bipush 9, 2) := by decide +kernel
theorem dX11_receives_10 : decode cX11_receives 10 = .ok (.invokestatic 157, 3) := by decide +kernel
theorem dX11_receives_13 : decode cX11_receives 13 = .ok (.iaload, 1) := by decide +kernel
theorem dX11_receives_14 : decode cX11_receives 14 = .ok (.istore 4, 2) := by decide +kernel
theorem dX11_receives_16 : decode cX11_receives 16 = .ok (.aload_n 1, 1) := by decide +kernel
theorem dX11_receives_17 : decode cX11_receives 17 = .ok (.iload_n 2, 1) := by decide +kernel
theorem dX11_receives_18 : decode cX11_receives 18 = .ok (.iaload, 1) := by decide +kernel
theorem dX11_receives_19 : decode cX11_receives 19 = .ok (.tableswitch 189 0 4 #[33, 54, 64, 74, 136], 33) := by decide +kernel
theorem dX11_receives_52 : decode cX11_receives 52 = .ok (.iload 4, 2) := by decide +kernel
theorem dX11_receives_54 : decode cX11_receives 54 = .ok (.ifCond .eq 9, 3) := by decide +kernel
theorem dX11_receives_57 : decode cX11_receives 57 = .ok (.iload 4, 2) := by decide +kernel
theorem dX11_receives_59 : decode cX11_receives 59 = .ok (.iconst 3, 1) := by decide +kernel
theorem dX11_receives_60 : decode cX11_receives 60 = .ok (.if_icmp .ne 157, 3) := by decide +kernel
theorem dX11_receives_63 : decode cX11_receives 63 = .ok (.aload_n 0, 1) := by decide +kernel
theorem dX11_receives_64 : decode cX11_receives 64 = .ok (.aload_n 1, 1) := by decide +kernel
theorem dX11_receives_65 : decode cX11_receives 65 = .ok (.iload_n 3, 1) := by decide +kernel
theorem dX11_receives_66 : decode cX11_receives 66 = .ok (.iconst 1, 1) := by decide +kernel
theorem dX11_receives_67 : decode cX11_receives 67 = .ok (.invokevirtual 241, 3) := by decide +kernel
theorem dX11_receives_70 : decode cX11_receives 70 = .ok (.goto 147, 3) := by decide +kernel
theorem dX11_receives_73 : decode cX11_receives 73 = .ok (.aload_n 0, 1) := by decide +kernel
theorem dX11_receives_74 : decode cX11_receives 74 = .ok (.aload_n 1, 1) := by decide +kernel
theorem dX11_receives_75 : decode cX11_receives 75 = .ok (.iload_n 3, 1) := by decide +kernel
theorem dX11_receives_76 : decode cX11_receives 76 = .ok (.iconst 3, 1) := by decide +kernel
theorem dX11_receives_77 : decode cX11_receives 77 = .ok (.invokevirtual 241, 3) := by decide +kernel
theorem dX11_receives_80 : decode cX11_receives 80 = .ok (.goto 137, 3) := by decide +kernel
theorem dX11_receives_83 : decode cX11_receives 83 = .ok (.aload_n 0, 1) := by decide +kernel
theorem dX11_receives_84 : decode cX11_receives 84 = .ok (.aload_n 1, 1) := by decide +kernel
theorem dX11_receives_85 : decode cX11_receives 85 = .ok (.iload_n 3, 1) := by decide +kernel
theorem dX11_receives_86 : decode cX11_receives 86 = .ok (.iconst 0, 1) := by decide +kernel
theorem dX11_receives_87 : decode cX11_receives 87 = .ok (.invokevirtual 241, 3) := by decide +kernel
theorem dX11_receives_90 : decode cX11_receives 90 = .ok (.goto 127, 3) := by decide +kernel
theorem dX11_receives_93 : decode cX11_receives 93 = .ok (.iload 4, 2) := by decide +kernel
theorem dX11_receives_95 : decode cX11_receives 95 = .ok (.iconst 2, 1) := by decide +kernel
theorem dX11_receives_96 : decode cX11_receives 96 = .ok (.if_icmp .ne 22, 3) := by decide +kernel
theorem dX11_receives_99 : decode cX11_receives 99 = .ok (.aload_n 1, 1) := by decide +kernel
theorem dX11_receives_100 : decode cX11_receives 100 = .ok (.iload_n 3, 1) := by decide +kernel
theorem dX11_receives_101 : decode cX11_receives 101 = .ok (.bipush 10, 2) := by decide +kernel
theorem dX11_receives_103 : decode cX11_receives 103 = .ok (.invokestatic 157, 3) := by decide +kernel
theorem dX11_receives_106 : decode cX11_receives 106 = .ok (.iaload, 1) := by decide +kernel
theorem dX11_receives_107 : decode cX11_receives 107 = .ok (.aload_n 1, 1) := by decide +kernel
theorem dX11_receives_108 : decode cX11_receives 108 = .ok (.iconst 0, 1) := by decide +kernel
theorem dX11_receives_109 : decode cX11_receives 109 = .ok (.iaload, 1) := by decide +kernel
theorem dX11_receives_110 : decode cX11_receives 110 = .ok (.iconst 1, 1) := by decide +kernel
theorem dX11_receives_111 : decode cX11_receives 111 = .ok (.isub, 1) := by decide +kernel
theorem dX11_receives_112 : decode cX11_receives 112 = .ok (.if_icmp .ne 6, 3) := by decide +kernel
theorem dX11_receives_115 : decode cX11_receives 115 = .ok (.goto 102, 3) := by decide +kernel
theorem dX11_receives_118 : decode cX11_receives 118 = .ok (.aload_n 1, 1) := by decide +kernel
theorem dX11_receives_119 : decode cX11_receives 119 = .ok (.iload_n 2, 1) := by decide +kernel
theorem dX11_receives_120 : decode cX11_receives 120 = .ok (.iconst 2, 1) := by decide +kernel
theorem dX11_receives_121 : decode cX11_receives 121 = .ok (.iadd, 1) := by decide +kernel
theorem dX11_receives_122 : decode cX11_receives 122 = .ok (.iaload, 1) := by decide +kernel
theorem dX11_receives_123 : decode cX11_receives 123 = .ok (.iconst 2, 1) := by decide +kernel
theorem dX11_receives_124 : decode cX11_receives 124 = .ok (.if_icmp .ne 17, 3) := by decide +kernel
theorem dX11_receives_127 : decode cX11_receives 127 = .ok (.aload_n 1, 1) := by decide +kernel
theorem dX11_receives_128 : decode cX11_receives 128 = .ok (.iload_n 3, 1) := by decide +kernel
theorem dX11_receives_129 : decode cX11_receives 129 = .ok (.bipush 10, 2) := by decide +kernel
theorem dX11_receives_131 : decode cX11_receives 131 = .ok (.invokestatic 157, 3) := by decide +kernel
theorem dX11_receives_134 : decode cX11_receives 134 = .ok (.aload_n 1, 1) := by decide +kernel
theorem dX11_receives_135 : decode cX11_receives 135 = .ok (.iconst 0, 1) := by decide +kernel
theorem dX11_receives_136 : decode cX11_receives 136 = .ok (.iaload, 1) := by decide +kernel
theorem dX11_receives_137 : decode cX11_receives 137 = .ok (.iastore, 1) := by decide +kernel
theorem dX11_receives_138 : decode cX11_receives 138 = .ok (.goto 79, 3) := by decide +kernel
theorem dX11_receives_141 : decode cX11_receives 141 = .ok (.aload_n 0, 1) := by decide +kernel
theorem dX11_receives_142 : decode cX11_receives 142 = .ok (.aload_n 1, 1) := by decide +kernel
theorem dX11_receives_143 : decode cX11_receives 143 = .ok (.iload_n 3, 1) := by decide +kernel
theorem dX11_receives_144 : decode cX11_receives 144 = .ok (.aload_n 1, 1) := by decide +kernel
theorem dX11_receives_145 : decode cX11_receives 145 = .ok (.iload_n 2, 1) := by decide +kernel
theorem dX11_receives_146 : decode cX11_receives 146 = .ok (.iconst 2, 1) := by decide +kernel
theorem dX11_receives_147 : decode cX11_receives 147 = .ok (.iadd, 1) := by decide +kernel
theorem dX11_receives_148 : decode cX11_receives 148 = .ok (.iaload, 1) := by decide +kernel
theorem dX11_receives_149 : decode cX11_receives 149 = .ok (.invokevirtual 241, 3) := by decide +kernel
theorem dX11_receives_152 : decode cX11_receives 152 = .ok (.goto 65, 3) := by decide +kernel
theorem dX11_receives_155 : decode cX11_receives 155 = .ok (.aload_n 1, 1) := by decide +kernel
theorem dX11_receives_156 : decode cX11_receives 156 = .ok (.iload_n 3, 1) := by decide +kernel
theorem dX11_receives_157 : decode cX11_receives 157 = .ok (.iconst 2, 1) := by decide +kernel
theorem dX11_receives_158 : decode cX11_receives 158 = .ok (.invokestatic 157, 3) := by decide +kernel
theorem dX11_receives_161 : decode cX11_receives 161 = .ok (.iaload, 1) := by decide +kernel
theorem dX11_receives_162 : decode cX11_receives 162 = .ok (.iconst 1, 1) := by decide +kernel
theorem dX11_receives_163 : decode cX11_receives 163 = .ok (.if_icmp .eq 6, 3) := by decide +kernel
theorem dX11_receives_166 : decode cX11_receives 166 = .ok (.goto 51, 3) := by decide +kernel
theorem dX11_receives_169 : decode cX11_receives 169 = .ok (.aload_n 1, 1) := by decide +kernel
theorem dX11_receives_170 : decode cX11_receives 170 = .ok (.iload_n 3, 1) := by decide +kernel
theorem dX11_receives_171 : decode cX11_receives 171 = .ok (.iconst 2, 1) := by decide +kernel
theorem dX11_receives_172 : decode cX11_receives 172 = .ok (.invokestatic 157, 3) := by decide +kernel
theorem dX11_receives_175 : decode cX11_receives 175 = .ok (.iconst 2, 1) := by decide +kernel
theorem dX11_receives_176 : decode cX11_receives 176 = .ok (.iastore, 1) := by decide +kernel
theorem dX11_receives_177 : decode cX11_receives 177 = .ok (.aload_n 1, 1) := by decide +kernel
theorem dX11_receives_178 : decode cX11_receives 178 = .ok (.iload_n 3, 1) := by decide +kernel
theorem dX11_receives_179 : decode cX11_receives 179 = .ok (.iconst 3, 1) := by decide +kernel
theorem dX11_receives_180 : decode cX11_receives 180 = .ok (.invokestatic 157, 3) := by decide +kernel
theorem dX11_receives_183 : decode cX11_receives 183 = .ok (.aload_n 0, 1) := by decide +kernel
theorem dX11_receives_184 : decode cX11_receives 184 = .ok (.getfield 7, 3) := by decide +kernel
theorem dX11_receives_187 : decode cX11_receives 187 = .ok (.iconst 4, 1) := by decide +kernel
theorem dX11_receives_188 : decode cX11_receives 188 = .ok (.iload_n 3, 1) := by decide +kernel
theorem dX11_receives_189 : decode cX11_receives 189 = .ok (.imul, 1) := by decide +kernel
theorem dX11_receives_190 : decode cX11_receives 190 = .ok (.iconst 3, 1) := by decide +kernel
theorem dX11_receives_191 : decode cX11_receives 191 = .ok (.iadd, 1) := by decide +kernel
theorem dX11_receives_192 : decode cX11_receives 192 = .ok (.iaload, 1) := by decide +kernel
theorem dX11_receives_193 : decode cX11_receives 193 = .ok (.iastore, 1) := by decide +kernel
theorem dX11_receives_194 : decode cX11_receives 194 = .ok (.aload_n 1, 1) := by decide +kernel
theorem dX11_receives_195 : decode cX11_receives 195 = .ok (.iload_n 3, 1) := by decide +kernel
theorem dX11_receives_196 : decode cX11_receives 196 = .ok (.iconst 4, 1) := by decide +kernel
theorem dX11_receives_197 : decode cX11_receives 197 = .ok (.invokestatic 157, 3) := by decide +kernel
theorem dX11_receives_200 : decode cX11_receives 200 = .ok (.dup2, 1) := by decide +kernel
theorem dX11_receives_201 : decode cX11_receives 201 = .ok (.iaload, 1) := by decide +kernel
theorem dX11_receives_202 : decode cX11_receives 202 = .ok (.iconst 1, 1) := by decide +kernel
theorem dX11_receives_203 : decode cX11_receives 203 = .ok (.iadd, 1) := by decide +kernel
theorem dX11_receives_204 : decode cX11_receives 204 = .ok (.iastore, 1) := by decide +kernel
theorem dX11_receives_205 : decode cX11_receives 205 = .ok (.goto 12, 3) := by decide +kernel
theorem dX11_receives_208 : decode cX11_receives 208 = .ok (.aload_n 1, 1) := by decide +kernel
theorem dX11_receives_209 : decode cX11_receives 209 = .ok (.iload_n 3, 1) := by decide +kernel
theorem dX11_receives_210 : decode cX11_receives 210 = .ok (.bipush 8, 2) := by decide +kernel
theorem dX11_receives_212 : decode cX11_receives 212 = .ok (.invokestatic 157, 3) := by decide +kernel
theorem dX11_receives_215 : decode cX11_receives 215 = .ok (.iconst 1, 1) := by decide +kernel
theorem dX11_receives_216 : decode cX11_receives 216 = .ok (.iastore, 1) := by decide +kernel
theorem dX11_receives_217 : decode cX11_receives 217 = .ok (.return_, 1) := by decide +kernel
theorem dX11_learns_0 : decode cX11_learns 0 = .ok (.aload_n 0, 1) := by decide +kernel
theorem dX11_learns_1 : decode cX11_learns 1 = .ok (.aload_n 1, 1) := by decide +kernel
theorem dX11_learns_2 : decode cX11_learns 2 = .ok (.invokevirtual 245, 3) := by decide +kernel
theorem dX11_learns_5 : decode cX11_learns 5 = .ok (.istore_n 2, 1) := by decide +kernel
theorem dX11_learns_6 : decode cX11_learns 6 = .ok (.iload_n 2, 1) := by decide +kernel
theorem dX11_learns_7 : decode cX11_learns 7 = .ok (.ifCond .eq 18, 3) := by decide +kernel
theorem dX11_learns_10 : decode cX11_learns 10 = .ok (.iload_n 2, 1) := by decide +kernel
theorem dX11_learns_11 : decode cX11_learns 11 = .ok (.aload_n 0, 1) := by decide +kernel
theorem dX11_learns_12 : decode cX11_learns 12 = .ok (.aload_n 1, 1) := by decide +kernel
theorem dX11_learns_13 : decode cX11_learns 13 = .ok (.bipush 9, 2) := by decide +kernel
theorem dX11_learns_15 : decode cX11_learns 15 = .ok (.iconst 3, 1) := by decide +kernel
theorem dX11_learns_16 : decode cX11_learns 16 = .ok (.invokevirtual 249, 3) := by decide +kernel
theorem dX11_learns_19 : decode cX11_learns 19 = .ok (.iconst (-1), 1) := by decide +kernel
theorem dX11_learns_20 : decode cX11_learns 20 = .ok (.ixor, 1) := by decide +kernel
theorem dX11_learns_21 : decode cX11_learns 21 = .ok (.iand, 1) := by decide +kernel
theorem dX11_learns_22 : decode cX11_learns 22 = .ok (.ifCond .eq 4, 3) := by decide +kernel
theorem dX11_learns_25 : decode cX11_learns 25 = .ok (.return_, 1) := by decide +kernel
theorem dX11_learns_26 : decode cX11_learns 26 = .ok (.aload_n 1, 1) := by decide +kernel
theorem dX11_learns_27 : decode cX11_learns 27 = .ok (.bipush 13, 2) := by decide +kernel
theorem dX11_learns_29 : decode cX11_learns 29 = .ok (.aload_n 1, 1) := by decide +kernel
theorem dX11_learns_30 : decode cX11_learns 30 = .ok (.bipush 12, 2) := by decide +kernel
theorem dX11_learns_32 : decode cX11_learns 32 = .ok (.iaload, 1) := by decide +kernel
theorem dX11_learns_33 : decode cX11_learns 33 = .ok (.iastore, 1) := by decide +kernel
theorem dX11_learns_34 : decode cX11_learns 34 = .ok (.iconst 0, 1) := by decide +kernel
theorem dX11_learns_35 : decode cX11_learns 35 = .ok (.istore_n 3, 1) := by decide +kernel
theorem dX11_learns_36 : decode cX11_learns 36 = .ok (.iload_n 3, 1) := by decide +kernel
theorem dX11_learns_37 : decode cX11_learns 37 = .ok (.aload_n 1, 1) := by decide +kernel
theorem dX11_learns_38 : decode cX11_learns 38 = .ok (.bipush 12, 2) := by decide +kernel
theorem dX11_learns_40 : decode cX11_learns 40 = .ok (.iaload, 1) := by decide +kernel
theorem dX11_learns_41 : decode cX11_learns 41 = .ok (.if_icmp .ge 21, 3) := by decide +kernel
theorem dX11_learns_44 : decode cX11_learns 44 = .ok (.aload_n 1, 1) := by decide +kernel
theorem dX11_learns_45 : decode cX11_learns 45 = .ok (.bipush 39, 2) := by decide +kernel
theorem dX11_learns_47 : decode cX11_learns 47 = .ok (.iload_n 3, 1) := by decide +kernel
theorem dX11_learns_48 : decode cX11_learns 48 = .ok (.iadd, 1) := by decide +kernel
theorem dX11_learns_49 : decode cX11_learns 49 = .ok (.aload_n 1, 1) := by decide +kernel
theorem dX11_learns_50 : decode cX11_learns 50 = .ok (.bipush 27, 2) := by decide +kernel
theorem dX11_learns_52 : decode cX11_learns 52 = .ok (.iload_n 3, 1) := by decide +kernel
theorem dX11_learns_53 : decode cX11_learns 53 = .ok (.iadd, 1) := by decide +kernel
theorem dX11_learns_54 : decode cX11_learns 54 = .ok (.iaload, 1) := by decide +kernel
theorem dX11_learns_55 : decode cX11_learns 55 = .ok (.iastore, 1) := by decide +kernel
theorem dX11_learns_56 : decode cX11_learns 56 = .ok (.iinc 3 1, 3) := by decide +kernel
theorem dX11_learns_59 : decode cX11_learns 59 = .ok (.goto (-23), 3) := by decide +kernel
theorem dX11_learns_62 : decode cX11_learns 62 = .ok (.return_, 1) := by decide +kernel
theorem dX11_acts_0 : decode cX11_acts 0 = .ok (.aload_n 1, 1) := by decide +kernel
theorem dX11_acts_1 : decode cX11_acts 1 = .ok (.iload_n 2, 1) := by decide +kernel
theorem dX11_acts_2 : decode cX11_acts 2 = .ok (.iconst 2, 1) := by decide +kernel
theorem dX11_acts_3 : decode cX11_acts 3 = .ok (.invokestatic 157, 3) := by decide +kernel
theorem dX11_acts_6 : decode cX11_acts 6 = .ok (.iaload, 1) := by decide +kernel
theorem dX11_acts_7 : decode cX11_acts 7 = .ok (.iconst 2, 1) := by decide +kernel
theorem dX11_acts_8 : decode cX11_acts 8 = .ok (.if_icmp .ne 39, 3) := by decide +kernel
theorem dX11_acts_11 : decode cX11_acts 11 = .ok (.aload_n 1, 1) := by decide +kernel
theorem dX11_acts_12 : decode cX11_acts 12 = .ok (.iload_n 2, 1) := by decide +kernel
theorem dX11_acts_13 : decode cX11_acts 13 = .ok (.iconst 3, 1) := by decide +kernel
theorem dX11_acts_14 : decode cX11_acts 14 = .ok (.invokestatic 157, 3) := by decide +kernel
theorem dX11_acts_17 : decode cX11_acts 17 = .ok (.iaload, 1) := by decide +kernel
theorem dX11_acts_18 : decode cX11_acts 18 = .ok (.ifCond .ne 29, 3) := by decide +kernel
theorem dX11_acts_21 : decode cX11_acts 21 = .ok (.aload_n 1, 1) := by decide +kernel
theorem dX11_acts_22 : decode cX11_acts 22 = .ok (.iload_n 2, 1) := by decide +kernel
theorem dX11_acts_23 : decode cX11_acts 23 = .ok (.iconst 2, 1) := by decide +kernel
theorem dX11_acts_24 : decode cX11_acts 24 = .ok (.invokestatic 157, 3) := by decide +kernel
theorem dX11_acts_27 : decode cX11_acts 27 = .ok (.iconst 3, 1) := by decide +kernel
theorem dX11_acts_28 : decode cX11_acts 28 = .ok (.iastore, 1) := by decide +kernel
theorem dX11_acts_29 : decode cX11_acts 29 = .ok (.aload_n 1, 1) := by decide +kernel
theorem dX11_acts_30 : decode cX11_acts 30 = .ok (.iload_n 2, 1) := by decide +kernel
theorem dX11_acts_31 : decode cX11_acts 31 = .ok (.iconst 5, 1) := by decide +kernel
theorem dX11_acts_32 : decode cX11_acts 32 = .ok (.invokestatic 157, 3) := by decide +kernel
theorem dX11_acts_35 : decode cX11_acts 35 = .ok (.aload_n 1, 1) := by decide +kernel
theorem dX11_acts_36 : decode cX11_acts 36 = .ok (.iconst 0, 1) := by decide +kernel
theorem dX11_acts_37 : decode cX11_acts 37 = .ok (.iaload, 1) := by decide +kernel
theorem dX11_acts_38 : decode cX11_acts 38 = .ok (.iastore, 1) := by decide +kernel
theorem dX11_acts_39 : decode cX11_acts 39 = .ok (.aload_n 0, 1) := by decide +kernel
theorem dX11_acts_40 : decode cX11_acts 40 = .ok (.aload_n 1, 1) := by decide +kernel
theorem dX11_acts_41 : decode cX11_acts 41 = .ok (.iconst 1, 1) := by decide +kernel
theorem dX11_acts_42 : decode cX11_acts 42 = .ok (.iload_n 2, 1) := by decide +kernel
theorem dX11_acts_43 : decode cX11_acts 43 = .ok (.iconst (-1), 1) := by decide +kernel
theorem dX11_acts_44 : decode cX11_acts 44 = .ok (.invokevirtual 253, 3) := by decide +kernel
theorem dX11_acts_47 : decode cX11_acts 47 = .ok (.aload_n 1, 1) := by decide +kernel
theorem dX11_acts_48 : decode cX11_acts 48 = .ok (.iload_n 2, 1) := by decide +kernel
theorem dX11_acts_49 : decode cX11_acts 49 = .ok (.bipush 7, 2) := by decide +kernel
theorem dX11_acts_51 : decode cX11_acts 51 = .ok (.invokestatic 157, 3) := by decide +kernel
theorem dX11_acts_54 : decode cX11_acts 54 = .ok (.iaload, 1) := by decide +kernel
theorem dX11_acts_55 : decode cX11_acts 55 = .ok (.iconst 1, 1) := by decide +kernel
theorem dX11_acts_56 : decode cX11_acts 56 = .ok (.if_icmp .ne 11, 3) := by decide +kernel
theorem dX11_acts_59 : decode cX11_acts 59 = .ok (.aload_n 0, 1) := by decide +kernel
theorem dX11_acts_60 : decode cX11_acts 60 = .ok (.aload_n 1, 1) := by decide +kernel
theorem dX11_acts_61 : decode cX11_acts 61 = .ok (.iconst 2, 1) := by decide +kernel
theorem dX11_acts_62 : decode cX11_acts 62 = .ok (.iload_n 2, 1) := by decide +kernel
theorem dX11_acts_63 : decode cX11_acts 63 = .ok (.iconst (-1), 1) := by decide +kernel
theorem dX11_acts_64 : decode cX11_acts 64 = .ok (.invokevirtual 253, 3) := by decide +kernel
theorem dX11_acts_67 : decode cX11_acts 67 = .ok (.aload_n 1, 1) := by decide +kernel
theorem dX11_acts_68 : decode cX11_acts 68 = .ok (.iload_n 2, 1) := by decide +kernel
theorem dX11_acts_69 : decode cX11_acts 69 = .ok (.bipush 8, 2) := by decide +kernel
theorem dX11_acts_71 : decode cX11_acts 71 = .ok (.invokestatic 157, 3) := by decide +kernel
theorem dX11_acts_74 : decode cX11_acts 74 = .ok (.iaload, 1) := by decide +kernel
theorem dX11_acts_75 : decode cX11_acts 75 = .ok (.iconst 1, 1) := by decide +kernel
theorem dX11_acts_76 : decode cX11_acts 76 = .ok (.if_icmp .ne 17, 3) := by decide +kernel
theorem dX11_acts_79 : decode cX11_acts 79 = .ok (.aload_n 0, 1) := by decide +kernel
theorem dX11_acts_80 : decode cX11_acts 80 = .ok (.aload_n 1, 1) := by decide +kernel
theorem dX11_acts_81 : decode cX11_acts 81 = .ok (.iconst 3, 1) := by decide +kernel
theorem dX11_acts_82 : decode cX11_acts 82 = .ok (.iload_n 2, 1) := by decide +kernel
theorem dX11_acts_83 : decode cX11_acts 83 = .ok (.aload_n 1, 1) := by decide +kernel
theorem dX11_acts_84 : decode cX11_acts 84 = .ok (.iload_n 2, 1) := by decide +kernel
theorem dX11_acts_85 : decode cX11_acts 85 = .ok (.iconst 2, 1) := by decide +kernel
theorem dX11_acts_86 : decode cX11_acts 86 = .ok (.invokestatic 157, 3) := by decide +kernel
theorem dX11_acts_89 : decode cX11_acts 89 = .ok (.iaload, 1) := by decide +kernel
theorem dX11_acts_90 : decode cX11_acts 90 = .ok (.invokevirtual 253, 3) := by decide +kernel
theorem dX11_acts_93 : decode cX11_acts 93 = .ok (.aload_n 1, 1) := by decide +kernel
theorem dX11_acts_94 : decode cX11_acts 94 = .ok (.iload_n 2, 1) := by decide +kernel
theorem dX11_acts_95 : decode cX11_acts 95 = .ok (.bipush 7, 2) := by decide +kernel
theorem dX11_acts_97 : decode cX11_acts 97 = .ok (.invokestatic 157, 3) := by decide +kernel
theorem dX11_acts_100 : decode cX11_acts 100 = .ok (.iconst 0, 1) := by decide +kernel
theorem dX11_acts_101 : decode cX11_acts 101 = .ok (.iastore, 1) := by decide +kernel
theorem dX11_acts_102 : decode cX11_acts 102 = .ok (.aload_n 1, 1) := by decide +kernel
theorem dX11_acts_103 : decode cX11_acts 103 = .ok (.iload_n 2, 1) := by decide +kernel
theorem dX11_acts_104 : decode cX11_acts 104 = .ok (.bipush 8, 2) := by decide +kernel
theorem dX11_acts_106 : decode cX11_acts 106 = .ok (.invokestatic 157, 3) := by decide +kernel
theorem dX11_acts_109 : decode cX11_acts 109 = .ok (.iconst 0, 1) := by decide +kernel
theorem dX11_acts_110 : decode cX11_acts 110 = .ok (.iastore, 1) := by decide +kernel
theorem dX11_acts_111 : decode cX11_acts 111 = .ok (.aload_n 1, 1) := by decide +kernel
theorem dX11_acts_112 : decode cX11_acts 112 = .ok (.iload_n 2, 1) := by decide +kernel
theorem dX11_acts_113 : decode cX11_acts 113 = .ok (.bipush 6, 2) := by decide +kernel
theorem dX11_acts_115 : decode cX11_acts 115 = .ok (.invokestatic 157, 3) := by decide +kernel
theorem dX11_acts_118 : decode cX11_acts 118 = .ok (.iaload, 1) := by decide +kernel
theorem dX11_acts_119 : decode cX11_acts 119 = .ok (.iconst (-1), 1) := by decide +kernel
theorem dX11_acts_120 : decode cX11_acts 120 = .ok (.if_icmp .eq 22, 3) := by decide +kernel
theorem dX11_acts_123 : decode cX11_acts 123 = .ok (.aload_n 1, 1) := by decide +kernel
theorem dX11_acts_124 : decode cX11_acts 124 = .ok (.iconst 0, 1) := by decide +kernel
theorem dX11_acts_125 : decode cX11_acts 125 = .ok (.iaload, 1) := by decide +kernel
theorem dX11_acts_126 : decode cX11_acts 126 = .ok (.aload_n 1, 1) := by decide +kernel
theorem dX11_acts_127 : decode cX11_acts 127 = .ok (.iload_n 2, 1) := by decide +kernel
theorem dX11_acts_128 : decode cX11_acts 128 = .ok (.bipush 6, 2) := by decide +kernel
theorem dX11_acts_130 : decode cX11_acts 130 = .ok (.invokestatic 157, 3) := by decide +kernel
theorem dX11_acts_133 : decode cX11_acts 133 = .ok (.iaload, 1) := by decide +kernel
theorem dX11_acts_134 : decode cX11_acts 134 = .ok (.isub, 1) := by decide +kernel
theorem dX11_acts_135 : decode cX11_acts 135 = .ok (.aload_n 1, 1) := by decide +kernel
theorem dX11_acts_136 : decode cX11_acts 136 = .ok (.bipush 7, 2) := by decide +kernel
theorem dX11_acts_138 : decode cX11_acts 138 = .ok (.iaload, 1) := by decide +kernel
theorem dX11_acts_139 : decode cX11_acts 139 = .ok (.if_icmp .lt 7, 3) := by decide +kernel
theorem dX11_acts_142 : decode cX11_acts 142 = .ok (.iconst 1, 1) := by decide +kernel
theorem dX11_acts_143 : decode cX11_acts 143 = .ok (.goto 4, 3) := by decide +kernel
theorem dX11_acts_146 : decode cX11_acts 146 = .ok (.iconst 0, 1) := by decide +kernel
theorem dX11_acts_147 : decode cX11_acts 147 = .ok (.istore_n 3, 1) := by decide +kernel
theorem dX11_acts_148 : decode cX11_acts 148 = .ok (.aload_n 1, 1) := by decide +kernel
theorem dX11_acts_149 : decode cX11_acts 149 = .ok (.iload_n 2, 1) := by decide +kernel
theorem dX11_acts_150 : decode cX11_acts 150 = .ok (.iconst 2, 1) := by decide +kernel
theorem dX11_acts_151 : decode cX11_acts 151 = .ok (.invokestatic 157, 3) := by decide +kernel
theorem dX11_acts_154 : decode cX11_acts 154 = .ok (.iaload, 1) := by decide +kernel
theorem dX11_acts_155 : decode cX11_acts 155 = .ok (.iconst 1, 1) := by decide +kernel
theorem dX11_acts_156 : decode cX11_acts 156 = .ok (.if_icmp .ne 7, 3) := by decide +kernel
theorem dX11_acts_159 : decode cX11_acts 159 = .ok (.iload_n 3, 1) := by decide +kernel
theorem dX11_acts_160 : decode cX11_acts 160 = .ok (.ifCond .ne 4, 3) := by decide +kernel
theorem dX11_acts_163 : decode cX11_acts 163 = .ok (.return_, 1) := by decide +kernel
theorem dX11_acts_164 : decode cX11_acts 164 = .ok (.aload_n 0, 1) := by decide +kernel
theorem dX11_acts_165 : decode cX11_acts 165 = .ok (.aload_n 1, 1) := by decide +kernel
theorem dX11_acts_166 : decode cX11_acts 166 = .ok (.iconst 0, 1) := by decide +kernel
theorem dX11_acts_167 : decode cX11_acts 167 = .ok (.iload_n 2, 1) := by decide +kernel
theorem dX11_acts_168 : decode cX11_acts 168 = .ok (.iconst (-1), 1) := by decide +kernel
theorem dX11_acts_169 : decode cX11_acts 169 = .ok (.invokevirtual 253, 3) := by decide +kernel
theorem dX11_acts_172 : decode cX11_acts 172 = .ok (.aload_n 1, 1) := by decide +kernel
theorem dX11_acts_173 : decode cX11_acts 173 = .ok (.iload_n 2, 1) := by decide +kernel
theorem dX11_acts_174 : decode cX11_acts 174 = .ok (.bipush 6, 2) := by decide +kernel
theorem dX11_acts_176 : decode cX11_acts 176 = .ok (.invokestatic 157, 3) := by decide +kernel
theorem dX11_acts_179 : decode cX11_acts 179 = .ok (.aload_n 1, 1) := by decide +kernel
theorem dX11_acts_180 : decode cX11_acts 180 = .ok (.iconst 0, 1) := by decide +kernel
theorem dX11_acts_181 : decode cX11_acts 181 = .ok (.iaload, 1) := by decide +kernel
theorem dX11_acts_182 : decode cX11_acts 182 = .ok (.iastore, 1) := by decide +kernel
theorem dX11_acts_183 : decode cX11_acts 183 = .ok (.return_, 1) := by decide +kernel
theorem dX11_placeOf_0 : decode cX11_placeOf 0 = .ok (.iconst 0, 1) := by decide +kernel
theorem dX11_placeOf_1 : decode cX11_placeOf 1 = .ok (.istore_n 3, 1) := by decide +kernel
theorem dX11_placeOf_2 : decode cX11_placeOf 2 = .ok (.iload_n 3, 1) := by decide +kernel
theorem dX11_placeOf_3 : decode cX11_placeOf 3 = .ok (.aload_n 1, 1) := by decide +kernel
theorem dX11_placeOf_4 : decode cX11_placeOf 4 = .ok (.bipush 13, 2) := by decide +kernel
theorem dX11_placeOf_6 : decode cX11_placeOf 6 = .ok (.iaload, 1) := by decide +kernel
theorem dX11_placeOf_7 : decode cX11_placeOf 7 = .ok (.if_icmp .ge 21, 3) := by decide +kernel
theorem dX11_placeOf_10 : decode cX11_placeOf 10 = .ok (.aload_n 1, 1) := by decide +kernel
theorem dX11_placeOf_11 : decode cX11_placeOf 11 = .ok (.bipush 39, 2) := by decide +kernel
theorem dX11_placeOf_13 : decode cX11_placeOf 13 = .ok (.iload_n 3, 1) := by decide +kernel
theorem dX11_placeOf_14 : decode cX11_placeOf 14 = .ok (.iadd, 1) := by decide +kernel
theorem dX11_placeOf_15 : decode cX11_placeOf 15 = .ok (.iaload, 1) := by decide +kernel
theorem dX11_placeOf_16 : decode cX11_placeOf 16 = .ok (.iload_n 2, 1) := by decide +kernel
theorem dX11_placeOf_17 : decode cX11_placeOf 17 = .ok (.if_icmp .ne 5, 3) := by decide +kernel
theorem dX11_placeOf_20 : decode cX11_placeOf 20 = .ok (.iload_n 3, 1) := by decide +kernel
theorem dX11_placeOf_21 : decode cX11_placeOf 21 = .ok (.ireturn, 1) := by decide +kernel
theorem dX11_placeOf_22 : decode cX11_placeOf 22 = .ok (.iinc 3 1, 3) := by decide +kernel
theorem dX11_placeOf_25 : decode cX11_placeOf 25 = .ok (.goto (-23), 3) := by decide +kernel
theorem dX11_placeOf_28 : decode cX11_placeOf 28 = .ok (.iconst (-1), 1) := by decide +kernel
theorem dX11_placeOf_29 : decode cX11_placeOf 29 = .ok (.ireturn, 1) := by decide +kernel
theorem dX11_isAhead_0 : decode cX11_isAhead 0 = .ok (.aload_n 1, 1) := by decide +kernel
theorem dX11_isAhead_1 : decode cX11_isAhead 1 = .ok (.iload_n 2, 1) := by decide +kernel
theorem dX11_isAhead_2 : decode cX11_isAhead 2 = .ok (.iconst 0, 1) := by decide +kernel
theorem dX11_isAhead_3 : decode cX11_isAhead 3 = .ok (.invokestatic 157, 3) := by decide +kernel
theorem dX11_isAhead_6 : decode cX11_isAhead 6 = .ok (.iaload, 1) := by decide +kernel
theorem dX11_isAhead_7 : decode cX11_isAhead 7 = .ok (.aload_n 1, 1) := by decide +kernel
theorem dX11_isAhead_8 : decode cX11_isAhead 8 = .ok (.iload_n 3, 1) := by decide +kernel
theorem dX11_isAhead_9 : decode cX11_isAhead 9 = .ok (.iconst 0, 1) := by decide +kernel
theorem dX11_isAhead_10 : decode cX11_isAhead 10 = .ok (.invokestatic 157, 3) := by decide +kernel
theorem dX11_isAhead_13 : decode cX11_isAhead 13 = .ok (.iaload, 1) := by decide +kernel
theorem dX11_isAhead_14 : decode cX11_isAhead 14 = .ok (.if_icmp .eq 26, 3) := by decide +kernel
theorem dX11_isAhead_17 : decode cX11_isAhead 17 = .ok (.aload_n 1, 1) := by decide +kernel
theorem dX11_isAhead_18 : decode cX11_isAhead 18 = .ok (.iload_n 2, 1) := by decide +kernel
theorem dX11_isAhead_19 : decode cX11_isAhead 19 = .ok (.iconst 0, 1) := by decide +kernel
theorem dX11_isAhead_20 : decode cX11_isAhead 20 = .ok (.invokestatic 157, 3) := by decide +kernel
theorem dX11_isAhead_23 : decode cX11_isAhead 23 = .ok (.iaload, 1) := by decide +kernel
theorem dX11_isAhead_24 : decode cX11_isAhead 24 = .ok (.aload_n 1, 1) := by decide +kernel
theorem dX11_isAhead_25 : decode cX11_isAhead 25 = .ok (.iload_n 3, 1) := by decide +kernel
theorem dX11_isAhead_26 : decode cX11_isAhead 26 = .ok (.iconst 0, 1) := by decide +kernel
theorem dX11_isAhead_27 : decode cX11_isAhead 27 = .ok (.invokestatic 157, 3) := by decide +kernel
theorem dX11_isAhead_30 : decode cX11_isAhead 30 = .ok (.iaload, 1) := by decide +kernel
theorem dX11_isAhead_31 : decode cX11_isAhead 31 = .ok (.if_icmp .le 7, 3) := by decide +kernel
theorem dX11_isAhead_34 : decode cX11_isAhead 34 = .ok (.iconst 1, 1) := by decide +kernel
theorem dX11_isAhead_35 : decode cX11_isAhead 35 = .ok (.goto 4, 3) := by decide +kernel
theorem dX11_isAhead_38 : decode cX11_isAhead 38 = .ok (.iconst 0, 1) := by decide +kernel
theorem dX11_isAhead_39 : decode cX11_isAhead 39 = .ok (.ireturn, 1) := by decide +kernel
theorem dX11_isAhead_40 : decode cX11_isAhead 40 = .ok (.aload_n 0, 1) := by decide +kernel
theorem dX11_isAhead_41 : decode cX11_isAhead 41 = .ok (.aload_n 1, 1) := by decide +kernel
theorem dX11_isAhead_42 : decode cX11_isAhead 42 = .ok (.iload_n 2, 1) := by decide +kernel
theorem dX11_isAhead_43 : decode cX11_isAhead 43 = .ok (.invokevirtual 257, 3) := by decide +kernel
theorem dX11_isAhead_46 : decode cX11_isAhead 46 = .ok (.istore 4, 2) := by decide +kernel
theorem dX11_isAhead_48 : decode cX11_isAhead 48 = .ok (.aload_n 0, 1) := by decide +kernel
theorem dX11_isAhead_49 : decode cX11_isAhead 49 = .ok (.aload_n 1, 1) := by decide +kernel
theorem dX11_isAhead_50 : decode cX11_isAhead 50 = .ok (.iload_n 3, 1) := by decide +kernel
theorem dX11_isAhead_51 : decode cX11_isAhead 51 = .ok (.invokevirtual 257, 3) := by decide +kernel
theorem dX11_isAhead_54 : decode cX11_isAhead 54 = .ok (.istore 5, 2) := by decide +kernel
theorem dX11_isAhead_56 : decode cX11_isAhead 56 = .ok (.iload 4, 2) := by decide +kernel
theorem dX11_isAhead_58 : decode cX11_isAhead 58 = .ok (.iload 5, 2) := by decide +kernel
theorem dX11_isAhead_60 : decode cX11_isAhead 60 = .ok (.if_icmp .eq 28, 3) := by decide +kernel
theorem dX11_isAhead_63 : decode cX11_isAhead 63 = .ok (.iload 4, 2) := by decide +kernel
theorem dX11_isAhead_65 : decode cX11_isAhead 65 = .ok (.iconst (-1), 1) := by decide +kernel
theorem dX11_isAhead_66 : decode cX11_isAhead 66 = .ok (.if_icmp .eq 20, 3) := by decide +kernel
theorem dX11_isAhead_69 : decode cX11_isAhead 69 = .ok (.iload 5, 2) := by decide +kernel
theorem dX11_isAhead_71 : decode cX11_isAhead 71 = .ok (.iconst (-1), 1) := by decide +kernel
theorem dX11_isAhead_72 : decode cX11_isAhead 72 = .ok (.if_icmp .eq 10, 3) := by decide +kernel
theorem dX11_isAhead_75 : decode cX11_isAhead 75 = .ok (.iload 4, 2) := by decide +kernel
theorem dX11_isAhead_77 : decode cX11_isAhead 77 = .ok (.iload 5, 2) := by decide +kernel
theorem dX11_isAhead_79 : decode cX11_isAhead 79 = .ok (.if_icmp .ge 7, 3) := by decide +kernel
theorem dX11_isAhead_82 : decode cX11_isAhead 82 = .ok (.iconst 1, 1) := by decide +kernel
theorem dX11_isAhead_83 : decode cX11_isAhead 83 = .ok (.goto 4, 3) := by decide +kernel
theorem dX11_isAhead_86 : decode cX11_isAhead 86 = .ok (.iconst 0, 1) := by decide +kernel
theorem dX11_isAhead_87 : decode cX11_isAhead 87 = .ok (.ireturn, 1) := by decide +kernel
theorem dX11_isAhead_88 : decode cX11_isAhead 88 = .ok (.iload_n 2, 1) := by decide +kernel
theorem dX11_isAhead_89 : decode cX11_isAhead 89 = .ok (.iload_n 3, 1) := by decide +kernel
theorem dX11_isAhead_90 : decode cX11_isAhead 90 = .ok (.if_icmp .ge 7, 3) := by decide +kernel
theorem dX11_isAhead_93 : decode cX11_isAhead 93 = .ok (.iconst 1, 1) := by decide +kernel
theorem dX11_isAhead_94 : decode cX11_isAhead 94 = .ok (.goto 4, 3) := by decide +kernel
theorem dX11_isAhead_97 : decode cX11_isAhead 97 = .ok (.iconst 0, 1) := by decide +kernel
theorem dX11_isAhead_98 : decode cX11_isAhead 98 = .ok (.ireturn, 1) := by decide +kernel
theorem dX11_lacks_0 : decode cX11_lacks 0 = .ok (.aload_n 0, 1) := by decide +kernel
theorem dX11_lacks_1 : decode cX11_lacks 1 = .ok (.getfield 13, 3) := by decide +kernel
theorem dX11_lacks_4 : decode cX11_lacks 4 = .ok (.iload_n 2, 1) := by decide +kernel
theorem dX11_lacks_5 : decode cX11_lacks 5 = .ok (.iaload, 1) := by decide +kernel
theorem dX11_lacks_6 : decode cX11_lacks 6 = .ok (.aload_n 0, 1) := by decide +kernel
theorem dX11_lacks_7 : decode cX11_lacks 7 = .ok (.aload_n 1, 1) := by decide +kernel
theorem dX11_lacks_8 : decode cX11_lacks 8 = .ok (.bipush 9, 2) := by decide +kernel
theorem dX11_lacks_10 : decode cX11_lacks 10 = .ok (.iconst 3, 1) := by decide +kernel
theorem dX11_lacks_11 : decode cX11_lacks 11 = .ok (.invokevirtual 249, 3) := by decide +kernel
theorem dX11_lacks_14 : decode cX11_lacks 14 = .ok (.iconst (-1), 1) := by decide +kernel
theorem dX11_lacks_15 : decode cX11_lacks 15 = .ok (.ixor, 1) := by decide +kernel
theorem dX11_lacks_16 : decode cX11_lacks 16 = .ok (.iand, 1) := by decide +kernel
theorem dX11_lacks_17 : decode cX11_lacks 17 = .ok (.ifCond .eq 7, 3) := by decide +kernel
theorem dX11_lacks_20 : decode cX11_lacks 20 = .ok (.iconst 1, 1) := by decide +kernel
theorem dX11_lacks_21 : decode cX11_lacks 21 = .ok (.goto 4, 3) := by decide +kernel
theorem dX11_lacks_24 : decode cX11_lacks 24 = .ok (.iconst 0, 1) := by decide +kernel
theorem dX11_lacks_25 : decode cX11_lacks 25 = .ok (.ireturn, 1) := by decide +kernel
theorem dX11_grantsOf_0 : decode cX11_grantsOf 0 = .ok (.iconst 0, 1) := by decide +kernel
theorem dX11_grantsOf_1 : decode cX11_grantsOf 1 = .ok (.istore_n 3, 1) := by decide +kernel
theorem dX11_grantsOf_2 : decode cX11_grantsOf 2 = .ok (.aload_n 0, 1) := by decide +kernel
theorem dX11_grantsOf_3 : decode cX11_grantsOf 3 = .ok (.aload_n 1, 1) := by decide +kernel
theorem dX11_grantsOf_4 : decode cX11_grantsOf 4 = .ok (.bipush 9, 2) := by decide +kernel
theorem dX11_grantsOf_6 : decode cX11_grantsOf 6 = .ok (.iconst 1, 1) := by decide +kernel
theorem dX11_grantsOf_7 : decode cX11_grantsOf 7 = .ok (.invokevirtual 249, 3) := by decide +kernel
theorem dX11_grantsOf_10 : decode cX11_grantsOf 10 = .ok (.istore 4, 2) := by decide +kernel
theorem dX11_grantsOf_12 : decode cX11_grantsOf 12 = .ok (.aload_n 1, 1) := by decide +kernel
theorem dX11_grantsOf_13 : decode cX11_grantsOf 13 = .ok (.bipush 6, 2) := by decide +kernel
theorem dX11_grantsOf_15 : decode cX11_grantsOf 15 = .ok (.iaload, 1) := by decide +kernel
theorem dX11_grantsOf_16 : decode cX11_grantsOf 16 = .ok (.aload_n 0, 1) := by decide +kernel
theorem dX11_grantsOf_17 : decode cX11_grantsOf 17 = .ok (.aload_n 1, 1) := by decide +kernel
theorem dX11_grantsOf_18 : decode cX11_grantsOf 18 = .ok (.invokevirtual 260, 3) := by decide +kernel
theorem dX11_grantsOf_21 : decode cX11_grantsOf 21 = .ok (.isub, 1) := by decide +kernel
theorem dX11_grantsOf_22 : decode cX11_grantsOf 22 = .ok (.istore 5, 2) := by decide +kernel
theorem dX11_grantsOf_24 : decode cX11_grantsOf 24 = .ok (.iload 4, 2) := by decide +kernel
theorem dX11_grantsOf_26 : decode cX11_grantsOf 26 = .ok (.ifCond .eq 149, 3) := by decide +kernel
theorem dX11_grantsOf_29 : decode cX11_grantsOf 29 = .ok (.iconst (-1), 1) := by decide +kernel
theorem dX11_grantsOf_30 : decode cX11_grantsOf 30 = .ok (.istore 6, 2) := by decide +kernel
theorem dX11_grantsOf_32 : decode cX11_grantsOf 32 = .ok (.iconst 0, 1) := by decide +kernel
theorem dX11_grantsOf_33 : decode cX11_grantsOf 33 = .ok (.istore 7, 2) := by decide +kernel
theorem dX11_grantsOf_35 : decode cX11_grantsOf 35 = .ok (.iload 7, 2) := by decide +kernel
theorem dX11_grantsOf_37 : decode cX11_grantsOf 37 = .ok (.aload_n 0, 1) := by decide +kernel
theorem dX11_grantsOf_38 : decode cX11_grantsOf 38 = .ok (.getfield 207, 3) := by decide +kernel
theorem dX11_grantsOf_41 : decode cX11_grantsOf 41 = .ok (.if_icmp .ge 42, 3) := by decide +kernel
theorem dX11_grantsOf_44 : decode cX11_grantsOf 44 = .ok (.iload 4, 2) := by decide +kernel
theorem dX11_grantsOf_46 : decode cX11_grantsOf 46 = .ok (.iload 7, 2) := by decide +kernel
theorem dX11_grantsOf_48 : decode cX11_grantsOf 48 = .ok (.ishr, 1) := by decide +kernel
theorem dX11_grantsOf_49 : decode cX11_grantsOf 49 = .ok (.iconst 1, 1) := by decide +kernel
theorem dX11_grantsOf_50 : decode cX11_grantsOf 50 = .ok (.iand, 1) := by decide +kernel
theorem dX11_grantsOf_51 : decode cX11_grantsOf 51 = .ok (.iconst 1, 1) := by decide +kernel
theorem dX11_grantsOf_52 : decode cX11_grantsOf 52 = .ok (.if_icmp .ne 25, 3) := by decide +kernel
theorem dX11_grantsOf_55 : decode cX11_grantsOf 55 = .ok (.iload 6, 2) := by decide +kernel
theorem dX11_grantsOf_57 : decode cX11_grantsOf 57 = .ok (.iconst (-1), 1) := by decide +kernel
theorem dX11_grantsOf_58 : decode cX11_grantsOf 58 = .ok (.if_icmp .eq 15, 3) := by decide +kernel
theorem dX11_grantsOf_61 : decode cX11_grantsOf 61 = .ok (.aload_n 0, 1) := by decide +kernel
theorem dX11_grantsOf_62 : decode cX11_grantsOf 62 = .ok (.aload_n 1, 1) := by decide +kernel
theorem dX11_grantsOf_63 : decode cX11_grantsOf 63 = .ok (.iload 7, 2) := by decide +kernel
theorem dX11_grantsOf_65 : decode cX11_grantsOf 65 = .ok (.iload 6, 2) := by decide +kernel
theorem dX11_grantsOf_67 : decode cX11_grantsOf 67 = .ok (.invokevirtual 263, 3) := by decide +kernel
theorem dX11_grantsOf_70 : decode cX11_grantsOf 70 = .ok (.ifCond .eq 7, 3) := by decide +kernel
theorem dX11_grantsOf_73 : decode cX11_grantsOf 73 = .ok (.iload 7, 2) := by decide +kernel
theorem dX11_grantsOf_75 : decode cX11_grantsOf 75 = .ok (.istore 6, 2) := by decide +kernel
theorem dX11_grantsOf_77 : decode cX11_grantsOf 77 = .ok (.iinc 7 1, 3) := by decide +kernel
theorem dX11_grantsOf_80 : decode cX11_grantsOf 80 = .ok (.goto (-45), 3) := by decide +kernel
theorem dX11_grantsOf_83 : decode cX11_grantsOf 83 = .ok (.iload 4, 2) := by decide +kernel
theorem dX11_grantsOf_85 : decode cX11_grantsOf 85 = .ok (.iconst 1, 1) := by decide +kernel
theorem dX11_grantsOf_86 : decode cX11_grantsOf 86 = .ok (.iload 6, 2) := by decide +kernel
theorem dX11_grantsOf_88 : decode cX11_grantsOf 88 = .ok (.ishl, 1) := by decide +kernel
theorem dX11_grantsOf_89 : decode cX11_grantsOf 89 = .ok (.iconst (-1), 1) := by decide +kernel
theorem dX11_grantsOf_90 : decode cX11_grantsOf 90 = .ok (.ixor, 1) := by decide +kernel
theorem dX11_grantsOf_91 : decode cX11_grantsOf 91 = .ok (.iand, 1) := by decide +kernel
theorem dX11_grantsOf_92 : decode cX11_grantsOf 92 = .ok (.istore 4, 2) := by decide +kernel
theorem dX11_grantsOf_94 : decode cX11_grantsOf 94 = .ok (.aload_n 0, 1) := by decide +kernel
theorem dX11_grantsOf_95 : decode cX11_grantsOf 95 = .ok (.aload_n 1, 1) := by decide +kernel
theorem dX11_grantsOf_96 : decode cX11_grantsOf 96 = .ok (.iload 6, 2) := by decide +kernel
theorem dX11_grantsOf_98 : decode cX11_grantsOf 98 = .ok (.invokevirtual 267, 3) := by decide +kernel
theorem dX11_grantsOf_101 : decode cX11_grantsOf 101 = .ok (.ifCond .eq 6, 3) := by decide +kernel
theorem dX11_grantsOf_104 : decode cX11_grantsOf 104 = .ok (.goto (-80), 3) := by decide +kernel
theorem dX11_grantsOf_107 : decode cX11_grantsOf 107 = .ok (.aload_n 0, 1) := by decide +kernel
theorem dX11_grantsOf_108 : decode cX11_grantsOf 108 = .ok (.aload_n 1, 1) := by decide +kernel
theorem dX11_grantsOf_109 : decode cX11_grantsOf 109 = .ok (.iload 6, 2) := by decide +kernel
theorem dX11_grantsOf_111 : decode cX11_grantsOf 111 = .ok (.invokevirtual 235, 3) := by decide +kernel
theorem dX11_grantsOf_114 : decode cX11_grantsOf 114 = .ok (.iload 5, 2) := by decide +kernel
theorem dX11_grantsOf_116 : decode cX11_grantsOf 116 = .ok (.if_icmp .le 13, 3) := by decide +kernel
theorem dX11_grantsOf_119 : decode cX11_grantsOf 119 = .ok (.aload_n 1, 1) := by decide +kernel
theorem dX11_grantsOf_120 : decode cX11_grantsOf 120 = .ok (.bipush 9, 2) := by decide +kernel
theorem dX11_grantsOf_122 : decode cX11_grantsOf 122 = .ok (.iaload, 1) := by decide +kernel
theorem dX11_grantsOf_123 : decode cX11_grantsOf 123 = .ok (.iconst 1, 1) := by decide +kernel
theorem dX11_grantsOf_124 : decode cX11_grantsOf 124 = .ok (.if_icmp .ne (-100), 3) := by decide +kernel
theorem dX11_grantsOf_127 : decode cX11_grantsOf 127 = .ok (.iload_n 3, 1) := by decide +kernel
theorem dX11_grantsOf_128 : decode cX11_grantsOf 128 = .ok (.ireturn, 1) := by decide +kernel
theorem dX11_grantsOf_129 : decode cX11_grantsOf 129 = .ok (.iload 5, 2) := by decide +kernel
theorem dX11_grantsOf_131 : decode cX11_grantsOf 131 = .ok (.aload_n 0, 1) := by decide +kernel
theorem dX11_grantsOf_132 : decode cX11_grantsOf 132 = .ok (.aload_n 1, 1) := by decide +kernel
theorem dX11_grantsOf_133 : decode cX11_grantsOf 133 = .ok (.iload 6, 2) := by decide +kernel
theorem dX11_grantsOf_135 : decode cX11_grantsOf 135 = .ok (.invokevirtual 235, 3) := by decide +kernel
theorem dX11_grantsOf_138 : decode cX11_grantsOf 138 = .ok (.isub, 1) := by decide +kernel
theorem dX11_grantsOf_139 : decode cX11_grantsOf 139 = .ok (.istore 5, 2) := by decide +kernel
theorem dX11_grantsOf_141 : decode cX11_grantsOf 141 = .ok (.iload_n 3, 1) := by decide +kernel
theorem dX11_grantsOf_142 : decode cX11_grantsOf 142 = .ok (.iconst 1, 1) := by decide +kernel
theorem dX11_grantsOf_143 : decode cX11_grantsOf 143 = .ok (.iload 6, 2) := by decide +kernel
theorem dX11_grantsOf_145 : decode cX11_grantsOf 145 = .ok (.ishl, 1) := by decide +kernel
theorem dX11_grantsOf_146 : decode cX11_grantsOf 146 = .ok (.ior, 1) := by decide +kernel
theorem dX11_grantsOf_147 : decode cX11_grantsOf 147 = .ok (.istore_n 3, 1) := by decide +kernel
theorem dX11_grantsOf_148 : decode cX11_grantsOf 148 = .ok (.iload_n 2, 1) := by decide +kernel
theorem dX11_grantsOf_149 : decode cX11_grantsOf 149 = .ok (.ifCond .ne 6, 3) := by decide +kernel
theorem dX11_grantsOf_152 : decode cX11_grantsOf 152 = .ok (.goto (-128), 3) := by decide +kernel
theorem dX11_grantsOf_155 : decode cX11_grantsOf 155 = .ok (.aload_n 0, 1) := by decide +kernel
theorem dX11_grantsOf_156 : decode cX11_grantsOf 156 = .ok (.aload_n 1, 1) := by decide +kernel
theorem dX11_grantsOf_157 : decode cX11_grantsOf 157 = .ok (.iconst 4, 1) := by decide +kernel
theorem dX11_grantsOf_158 : decode cX11_grantsOf 158 = .ok (.iload 6, 2) := by decide +kernel
theorem dX11_grantsOf_160 : decode cX11_grantsOf 160 = .ok (.iconst (-1), 1) := by decide +kernel
theorem dX11_grantsOf_161 : decode cX11_grantsOf 161 = .ok (.invokevirtual 253, 3) := by decide +kernel
theorem dX11_grantsOf_164 : decode cX11_grantsOf 164 = .ok (.aload_n 0, 1) := by decide +kernel
theorem dX11_grantsOf_165 : decode cX11_grantsOf 165 = .ok (.aload_n 1, 1) := by decide +kernel
theorem dX11_grantsOf_166 : decode cX11_grantsOf 166 = .ok (.iload 6, 2) := by decide +kernel
theorem dX11_grantsOf_168 : decode cX11_grantsOf 168 = .ok (.iconst 2, 1) := by decide +kernel
theorem dX11_grantsOf_169 : decode cX11_grantsOf 169 = .ok (.invokevirtual 241, 3) := by decide +kernel
theorem dX11_grantsOf_172 : decode cX11_grantsOf 172 = .ok (.goto (-148), 3) := by decide +kernel
theorem dX11_grantsOf_175 : decode cX11_grantsOf 175 = .ok (.iload_n 3, 1) := by decide +kernel
theorem dX11_grantsOf_176 : decode cX11_grantsOf 176 = .ok (.ireturn, 1) := by decide +kernel
theorem dX11_polls_0 : decode cX11_polls 0 = .ok (.iconst 0, 1) := by decide +kernel
theorem dX11_polls_1 : decode cX11_polls 1 = .ok (.istore_n 2, 1) := by decide +kernel
theorem dX11_polls_2 : decode cX11_polls 2 = .ok (.iload_n 2, 1) := by decide +kernel
theorem dX11_polls_3 : decode cX11_polls 3 = .ok (.aload_n 0, 1) := by decide +kernel
theorem dX11_polls_4 : decode cX11_polls 4 = .ok (.getfield 207, 3) := by decide +kernel
theorem dX11_polls_7 : decode cX11_polls 7 = .ok (.if_icmp .ge 82, 3) := by decide +kernel
theorem dX11_polls_10 : decode cX11_polls 10 = .ok (.aload_n 1, 1) := by decide +kernel
theorem dX11_polls_11 : decode cX11_polls 11 = .ok (.iload_n 2, 1) := by decide +kernel
theorem dX11_polls_12 : decode cX11_polls 12 = .ok (.bipush 9, 2) := by decide +kernel
theorem dX11_polls_14 : decode cX11_polls 14 = .ok (.invokestatic 157, 3) := by decide +kernel
theorem dX11_polls_17 : decode cX11_polls 17 = .ok (.iaload, 1) := by decide +kernel
theorem dX11_polls_18 : decode cX11_polls 18 = .ok (.istore_n 3, 1) := by decide +kernel
theorem dX11_polls_19 : decode cX11_polls 19 = .ok (.aload_n 1, 1) := by decide +kernel
theorem dX11_polls_20 : decode cX11_polls 20 = .ok (.iconst 0, 1) := by decide +kernel
theorem dX11_polls_21 : decode cX11_polls 21 = .ok (.iaload, 1) := by decide +kernel
theorem dX11_polls_22 : decode cX11_polls 22 = .ok (.aload_n 1, 1) := by decide +kernel
theorem dX11_polls_23 : decode cX11_polls 23 = .ok (.iload_n 2, 1) := by decide +kernel
theorem dX11_polls_24 : decode cX11_polls 24 = .ok (.bipush 10, 2) := by decide +kernel
theorem dX11_polls_26 : decode cX11_polls 26 = .ok (.invokestatic 157, 3) := by decide +kernel
theorem dX11_polls_29 : decode cX11_polls 29 = .ok (.iaload, 1) := by decide +kernel
theorem dX11_polls_30 : decode cX11_polls 30 = .ok (.isub, 1) := by decide +kernel
theorem dX11_polls_31 : decode cX11_polls 31 = .ok (.istore 4, 2) := by decide +kernel
theorem dX11_polls_33 : decode cX11_polls 33 = .ok (.iload_n 3, 1) := by decide +kernel
theorem dX11_polls_34 : decode cX11_polls 34 = .ok (.iconst 2, 1) := by decide +kernel
theorem dX11_polls_35 : decode cX11_polls 35 = .ok (.if_icmp .lt 48, 3) := by decide +kernel
theorem dX11_polls_38 : decode cX11_polls 38 = .ok (.iload 4, 2) := by decide +kernel
theorem dX11_polls_40 : decode cX11_polls 40 = .ok (.iload_n 3, 1) := by decide +kernel
theorem dX11_polls_41 : decode cX11_polls 41 = .ok (.iconst 2, 1) := by decide +kernel
theorem dX11_polls_42 : decode cX11_polls 42 = .ok (.if_icmp .ne 10, 3) := by decide +kernel
theorem dX11_polls_45 : decode cX11_polls 45 = .ok (.aload_n 1, 1) := by decide +kernel
theorem dX11_polls_46 : decode cX11_polls 46 = .ok (.bipush 8, 2) := by decide +kernel
theorem dX11_polls_48 : decode cX11_polls 48 = .ok (.iaload, 1) := by decide +kernel
theorem dX11_polls_49 : decode cX11_polls 49 = .ok (.goto 9, 3) := by decide +kernel
theorem dX11_polls_52 : decode cX11_polls 52 = .ok (.iconst 5, 1) := by decide +kernel
theorem dX11_polls_53 : decode cX11_polls 53 = .ok (.aload_n 1, 1) := by decide +kernel
theorem dX11_polls_54 : decode cX11_polls 54 = .ok (.bipush 8, 2) := by decide +kernel
theorem dX11_polls_56 : decode cX11_polls 56 = .ok (.iaload, 1) := by decide +kernel
theorem dX11_polls_57 : decode cX11_polls 57 = .ok (.imul, 1) := by decide +kernel
theorem dX11_polls_58 : decode cX11_polls 58 = .ok (.if_icmp .ge 6, 3) := by decide +kernel
theorem dX11_polls_61 : decode cX11_polls 61 = .ok (.goto 22, 3) := by decide +kernel
theorem dX11_polls_64 : decode cX11_polls 64 = .ok (.aload_n 0, 1) := by decide +kernel
theorem dX11_polls_65 : decode cX11_polls 65 = .ok (.aload_n 1, 1) := by decide +kernel
theorem dX11_polls_66 : decode cX11_polls 66 = .ok (.iconst 5, 1) := by decide +kernel
theorem dX11_polls_67 : decode cX11_polls 67 = .ok (.iload_n 2, 1) := by decide +kernel
theorem dX11_polls_68 : decode cX11_polls 68 = .ok (.iconst (-1), 1) := by decide +kernel
theorem dX11_polls_69 : decode cX11_polls 69 = .ok (.invokevirtual 253, 3) := by decide +kernel
theorem dX11_polls_72 : decode cX11_polls 72 = .ok (.aload_n 1, 1) := by decide +kernel
theorem dX11_polls_73 : decode cX11_polls 73 = .ok (.iload_n 2, 1) := by decide +kernel
theorem dX11_polls_74 : decode cX11_polls 74 = .ok (.bipush 10, 2) := by decide +kernel
theorem dX11_polls_76 : decode cX11_polls 76 = .ok (.invokestatic 157, 3) := by decide +kernel
theorem dX11_polls_79 : decode cX11_polls 79 = .ok (.aload_n 1, 1) := by decide +kernel
theorem dX11_polls_80 : decode cX11_polls 80 = .ok (.iconst 0, 1) := by decide +kernel
theorem dX11_polls_81 : decode cX11_polls 81 = .ok (.iaload, 1) := by decide +kernel
theorem dX11_polls_82 : decode cX11_polls 82 = .ok (.iastore, 1) := by decide +kernel
theorem dX11_polls_83 : decode cX11_polls 83 = .ok (.iinc 2 1, 3) := by decide +kernel
theorem dX11_polls_86 : decode cX11_polls 86 = .ok (.goto (-84), 3) := by decide +kernel
theorem dX11_polls_89 : decode cX11_polls 89 = .ok (.return_, 1) := by decide +kernel
theorem dX11_ticks_0 : decode cX11_ticks 0 = .ok (.iconst 0, 1) := by decide +kernel
theorem dX11_ticks_1 : decode cX11_ticks 1 = .ok (.istore_n 2, 1) := by decide +kernel
theorem dX11_ticks_2 : decode cX11_ticks 2 = .ok (.iload_n 2, 1) := by decide +kernel
theorem dX11_ticks_3 : decode cX11_ticks 3 = .ok (.aload_n 0, 1) := by decide +kernel
theorem dX11_ticks_4 : decode cX11_ticks 4 = .ok (.getfield 216, 3) := by decide +kernel
theorem dX11_ticks_7 : decode cX11_ticks 7 = .ok (.if_icmp .ge 38, 3) := by decide +kernel
theorem dX11_ticks_10 : decode cX11_ticks 10 = .ok (.aload_n 0, 1) := by decide +kernel
theorem dX11_ticks_11 : decode cX11_ticks 11 = .ok (.getfield 19, 3) := by decide +kernel
theorem dX11_ticks_14 : decode cX11_ticks 14 = .ok (.iconst 2, 1) := by decide +kernel
theorem dX11_ticks_15 : decode cX11_ticks 15 = .ok (.iload_n 2, 1) := by decide +kernel
theorem dX11_ticks_16 : decode cX11_ticks 16 = .ok (.imul, 1) := by decide +kernel
theorem dX11_ticks_17 : decode cX11_ticks 17 = .ok (.iaload, 1) := by decide +kernel
theorem dX11_ticks_18 : decode cX11_ticks 18 = .ok (.aload_n 1, 1) := by decide +kernel
theorem dX11_ticks_19 : decode cX11_ticks 19 = .ok (.iconst 0, 1) := by decide +kernel
theorem dX11_ticks_20 : decode cX11_ticks 20 = .ok (.iaload, 1) := by decide +kernel
theorem dX11_ticks_21 : decode cX11_ticks 21 = .ok (.if_icmp .ne 18, 3) := by decide +kernel
theorem dX11_ticks_24 : decode cX11_ticks 24 = .ok (.aload_n 0, 1) := by decide +kernel
theorem dX11_ticks_25 : decode cX11_ticks 25 = .ok (.aload_n 1, 1) := by decide +kernel
theorem dX11_ticks_26 : decode cX11_ticks 26 = .ok (.aload_n 0, 1) := by decide +kernel
theorem dX11_ticks_27 : decode cX11_ticks 27 = .ok (.getfield 19, 3) := by decide +kernel
theorem dX11_ticks_30 : decode cX11_ticks 30 = .ok (.iconst 2, 1) := by decide +kernel
theorem dX11_ticks_31 : decode cX11_ticks 31 = .ok (.iload_n 2, 1) := by decide +kernel
theorem dX11_ticks_32 : decode cX11_ticks 32 = .ok (.imul, 1) := by decide +kernel
theorem dX11_ticks_33 : decode cX11_ticks 33 = .ok (.iconst 1, 1) := by decide +kernel
theorem dX11_ticks_34 : decode cX11_ticks 34 = .ok (.iadd, 1) := by decide +kernel
theorem dX11_ticks_35 : decode cX11_ticks 35 = .ok (.iaload, 1) := by decide +kernel
theorem dX11_ticks_36 : decode cX11_ticks 36 = .ok (.invokevirtual 271, 3) := by decide +kernel
theorem dX11_ticks_39 : decode cX11_ticks 39 = .ok (.iinc 2 1, 3) := by decide +kernel
theorem dX11_ticks_42 : decode cX11_ticks 42 = .ok (.goto (-40), 3) := by decide +kernel
theorem dX11_ticks_45 : decode cX11_ticks 45 = .ok (.aload_n 0, 1) := by decide +kernel
theorem dX11_ticks_46 : decode cX11_ticks 46 = .ok (.aload_n 1, 1) := by decide +kernel
theorem dX11_ticks_47 : decode cX11_ticks 47 = .ok (.invokevirtual 275, 3) := by decide +kernel
theorem dX11_ticks_50 : decode cX11_ticks 50 = .ok (.ifCond .eq 12, 3) := by decide +kernel
theorem dX11_ticks_53 : decode cX11_ticks 53 = .ok (.aload_n 1, 1) := by decide +kernel
theorem dX11_ticks_54 : decode cX11_ticks 54 = .ok (.iconst 0, 1) := by decide +kernel
theorem dX11_ticks_55 : decode cX11_ticks 55 = .ok (.dup2, 1) := by decide +kernel
theorem dX11_ticks_56 : decode cX11_ticks 56 = .ok (.iaload, 1) := by decide +kernel
theorem dX11_ticks_57 : decode cX11_ticks 57 = .ok (.iconst 1, 1) := by decide +kernel
theorem dX11_ticks_58 : decode cX11_ticks 58 = .ok (.iadd, 1) := by decide +kernel
theorem dX11_ticks_59 : decode cX11_ticks 59 = .ok (.iastore, 1) := by decide +kernel
theorem dX11_ticks_60 : decode cX11_ticks 60 = .ok (.iconst 0, 1) := by decide +kernel
theorem dX11_ticks_61 : decode cX11_ticks 61 = .ok (.ireturn, 1) := by decide +kernel
theorem dX11_ticks_62 : decode cX11_ticks 62 = .ok (.aload_n 1, 1) := by decide +kernel
theorem dX11_ticks_63 : decode cX11_ticks 63 = .ok (.bipush 11, 2) := by decide +kernel
theorem dX11_ticks_65 : decode cX11_ticks 65 = .ok (.iaload, 1) := by decide +kernel
theorem dX11_ticks_66 : decode cX11_ticks 66 = .ok (.istore_n 2, 1) := by decide +kernel
theorem dX11_ticks_67 : decode cX11_ticks 67 = .ok (.iconst 0, 1) := by decide +kernel
theorem dX11_ticks_68 : decode cX11_ticks 68 = .ok (.istore_n 3, 1) := by decide +kernel
theorem dX11_ticks_69 : decode cX11_ticks 69 = .ok (.iload_n 3, 1) := by decide +kernel
theorem dX11_ticks_70 : decode cX11_ticks 70 = .ok (.iload_n 2, 1) := by decide +kernel
theorem dX11_ticks_71 : decode cX11_ticks 71 = .ok (.if_icmp .ge 21, 3) := by decide +kernel
theorem dX11_ticks_74 : decode cX11_ticks 74 = .ok (.aload_n 0, 1) := by decide +kernel
theorem dX11_ticks_75 : decode cX11_ticks 75 = .ok (.aload_n 1, 1) := by decide +kernel
theorem dX11_ticks_76 : decode cX11_ticks 76 = .ok (.sipush 195, 3) := by decide +kernel
theorem dX11_ticks_79 : decode cX11_ticks 79 = .ok (.iconst 3, 1) := by decide +kernel
theorem dX11_ticks_80 : decode cX11_ticks 80 = .ok (.iload_n 3, 1) := by decide +kernel
theorem dX11_ticks_81 : decode cX11_ticks 81 = .ok (.imul, 1) := by decide +kernel
theorem dX11_ticks_82 : decode cX11_ticks 82 = .ok (.iadd, 1) := by decide +kernel
theorem dX11_ticks_83 : decode cX11_ticks 83 = .ok (.invokevirtual 279, 3) := by decide +kernel
theorem dX11_ticks_86 : decode cX11_ticks 86 = .ok (.iinc 3 1, 3) := by decide +kernel
theorem dX11_ticks_89 : decode cX11_ticks 89 = .ok (.goto (-20), 3) := by decide +kernel
theorem dX11_ticks_92 : decode cX11_ticks 92 = .ok (.aload_n 1, 1) := by decide +kernel
theorem dX11_ticks_93 : decode cX11_ticks 93 = .ok (.bipush 11, 2) := by decide +kernel
theorem dX11_ticks_95 : decode cX11_ticks 95 = .ok (.iconst 0, 1) := by decide +kernel
theorem dX11_ticks_96 : decode cX11_ticks 96 = .ok (.iastore, 1) := by decide +kernel
theorem dX11_ticks_97 : decode cX11_ticks 97 = .ok (.aload_n 0, 1) := by decide +kernel
theorem dX11_ticks_98 : decode cX11_ticks 98 = .ok (.aload_n 1, 1) := by decide +kernel
theorem dX11_ticks_99 : decode cX11_ticks 99 = .ok (.invokevirtual 282, 3) := by decide +kernel
theorem dX11_ticks_102 : decode cX11_ticks 102 = .ok (.iconst 0, 1) := by decide +kernel
theorem dX11_ticks_103 : decode cX11_ticks 103 = .ok (.istore_n 3, 1) := by decide +kernel
theorem dX11_ticks_104 : decode cX11_ticks 104 = .ok (.iload_n 3, 1) := by decide +kernel
theorem dX11_ticks_105 : decode cX11_ticks 105 = .ok (.aload_n 0, 1) := by decide +kernel
theorem dX11_ticks_106 : decode cX11_ticks 106 = .ok (.getfield 207, 3) := by decide +kernel
theorem dX11_ticks_109 : decode cX11_ticks 109 = .ok (.if_icmp .ge 15, 3) := by decide +kernel
theorem dX11_ticks_112 : decode cX11_ticks 112 = .ok (.aload_n 0, 1) := by decide +kernel
theorem dX11_ticks_113 : decode cX11_ticks 113 = .ok (.aload_n 1, 1) := by decide +kernel
theorem dX11_ticks_114 : decode cX11_ticks 114 = .ok (.iload_n 3, 1) := by decide +kernel
theorem dX11_ticks_115 : decode cX11_ticks 115 = .ok (.invokevirtual 286, 3) := by decide +kernel
theorem dX11_ticks_118 : decode cX11_ticks 118 = .ok (.iinc 3 1, 3) := by decide +kernel
theorem dX11_ticks_121 : decode cX11_ticks 121 = .ok (.goto (-17), 3) := by decide +kernel
theorem dX11_ticks_124 : decode cX11_ticks 124 = .ok (.aload_n 0, 1) := by decide +kernel
theorem dX11_ticks_125 : decode cX11_ticks 125 = .ok (.aload_n 1, 1) := by decide +kernel
theorem dX11_ticks_126 : decode cX11_ticks 126 = .ok (.invokevirtual 289, 3) := by decide +kernel
theorem dX11_ticks_129 : decode cX11_ticks 129 = .ok (.aload_n 0, 1) := by decide +kernel
theorem dX11_ticks_130 : decode cX11_ticks 130 = .ok (.aload_n 1, 1) := by decide +kernel
theorem dX11_ticks_131 : decode cX11_ticks 131 = .ok (.iconst 1, 1) := by decide +kernel
theorem dX11_ticks_132 : decode cX11_ticks 132 = .ok (.invokevirtual 292, 3) := by decide +kernel
theorem dX11_ticks_135 : decode cX11_ticks 135 = .ok (.istore_n 3, 1) := by decide +kernel
theorem dX11_ticks_136 : decode cX11_ticks 136 = .ok (.aload_n 0, 1) := by decide +kernel
theorem dX11_ticks_137 : decode cX11_ticks 137 = .ok (.aload_n 1, 1) := by decide +kernel
theorem dX11_ticks_138 : decode cX11_ticks 138 = .ok (.invokevirtual 296, 3) := by decide +kernel
theorem dX11_ticks_141 : decode cX11_ticks 141 = .ok (.istore 4, 2) := by decide +kernel
theorem dX11_ticks_143 : decode cX11_ticks 143 = .ok (.aload_n 1, 1) := by decide +kernel
theorem dX11_ticks_144 : decode cX11_ticks 144 = .ok (.bipush 10, 2) := by decide +kernel
theorem dX11_ticks_146 : decode cX11_ticks 146 = .ok (.iload 4, 2) := by decide +kernel
theorem dX11_ticks_148 : decode cX11_ticks 148 = .ok (.aload_n 1, 1) := by decide +kernel
theorem dX11_ticks_149 : decode cX11_ticks 149 = .ok (.bipush 10, 2) := by decide +kernel
theorem dX11_ticks_151 : decode cX11_ticks 151 = .ok (.iaload, 1) := by decide +kernel
theorem dX11_ticks_152 : decode cX11_ticks 152 = .ok (.if_icmp .le 8, 3) := by decide +kernel
theorem dX11_ticks_155 : decode cX11_ticks 155 = .ok (.iload 4, 2) := by decide +kernel
theorem dX11_ticks_157 : decode cX11_ticks 157 = .ok (.goto 7, 3) := by decide +kernel
theorem dX11_ticks_160 : decode cX11_ticks 160 = .ok (.aload_n 1, 1) := by decide +kernel
theorem dX11_ticks_161 : decode cX11_ticks 161 = .ok (.bipush 10, 2) := by decide +kernel
theorem dX11_ticks_163 : decode cX11_ticks 163 = .ok (.iaload, 1) := by decide +kernel
theorem dX11_ticks_164 : decode cX11_ticks 164 = .ok (.iastore, 1) := by decide +kernel
theorem dX11_ticks_165 : decode cX11_ticks 165 = .ok (.iconst 0, 1) := by decide +kernel
theorem dX11_ticks_166 : decode cX11_ticks 166 = .ok (.istore 5, 2) := by decide +kernel
theorem dX11_ticks_168 : decode cX11_ticks 168 = .ok (.iload 5, 2) := by decide +kernel
theorem dX11_ticks_170 : decode cX11_ticks 170 = .ok (.aload_n 0, 1) := by decide +kernel
theorem dX11_ticks_171 : decode cX11_ticks 171 = .ok (.getfield 207, 3) := by decide +kernel
theorem dX11_ticks_174 : decode cX11_ticks 174 = .ok (.if_icmp .ge 33, 3) := by decide +kernel
theorem dX11_ticks_177 : decode cX11_ticks 177 = .ok (.aload_n 1, 1) := by decide +kernel
theorem dX11_ticks_178 : decode cX11_ticks 178 = .ok (.iload 5, 2) := by decide +kernel
theorem dX11_ticks_180 : decode cX11_ticks 180 = .ok (.iconst 2, 1) := by decide +kernel
theorem dX11_ticks_181 : decode cX11_ticks 181 = .ok (.invokestatic 157, 3) := by decide +kernel
theorem dX11_ticks_184 : decode cX11_ticks 184 = .ok (.iaload, 1) := by decide +kernel
theorem dX11_ticks_185 : decode cX11_ticks 185 = .ok (.iconst 2, 1) := by decide +kernel
theorem dX11_ticks_186 : decode cX11_ticks 186 = .ok (.if_icmp .ne 15, 3) := by decide +kernel
theorem dX11_ticks_189 : decode cX11_ticks 189 = .ok (.aload_n 1, 1) := by decide +kernel
theorem dX11_ticks_190 : decode cX11_ticks 190 = .ok (.iload 5, 2) := by decide +kernel
theorem dX11_ticks_192 : decode cX11_ticks 192 = .ok (.iconst 3, 1) := by decide +kernel
theorem dX11_ticks_193 : decode cX11_ticks 193 = .ok (.invokestatic 157, 3) := by decide +kernel
theorem dX11_ticks_196 : decode cX11_ticks 196 = .ok (.dup2, 1) := by decide +kernel
theorem dX11_ticks_197 : decode cX11_ticks 197 = .ok (.iaload, 1) := by decide +kernel
theorem dX11_ticks_198 : decode cX11_ticks 198 = .ok (.iconst 1, 1) := by decide +kernel
theorem dX11_ticks_199 : decode cX11_ticks 199 = .ok (.isub, 1) := by decide +kernel
theorem dX11_ticks_200 : decode cX11_ticks 200 = .ok (.iastore, 1) := by decide +kernel
theorem dX11_ticks_201 : decode cX11_ticks 201 = .ok (.iinc 5 1, 3) := by decide +kernel
theorem dX11_ticks_204 : decode cX11_ticks 204 = .ok (.goto (-36), 3) := by decide +kernel
theorem dX11_ticks_207 : decode cX11_ticks 207 = .ok (.aload_n 1, 1) := by decide +kernel
theorem dX11_ticks_208 : decode cX11_ticks 208 = .ok (.iconst 0, 1) := by decide +kernel
theorem dX11_ticks_209 : decode cX11_ticks 209 = .ok (.dup2, 1) := by decide +kernel
theorem dX11_ticks_210 : decode cX11_ticks 210 = .ok (.iaload, 1) := by decide +kernel
theorem dX11_ticks_211 : decode cX11_ticks 211 = .ok (.iconst 1, 1) := by decide +kernel
theorem dX11_ticks_212 : decode cX11_ticks 212 = .ok (.iadd, 1) := by decide +kernel
theorem dX11_ticks_213 : decode cX11_ticks 213 = .ok (.iastore, 1) := by decide +kernel
theorem dX11_ticks_214 : decode cX11_ticks 214 = .ok (.iload 4, 2) := by decide +kernel
theorem dX11_ticks_216 : decode cX11_ticks 216 = .ok (.aload_n 1, 1) := by decide +kernel
theorem dX11_ticks_217 : decode cX11_ticks 217 = .ok (.bipush 6, 2) := by decide +kernel
theorem dX11_ticks_219 : decode cX11_ticks 219 = .ok (.iaload, 1) := by decide +kernel
theorem dX11_ticks_220 : decode cX11_ticks 220 = .ok (.if_icmp .le 16, 3) := by decide +kernel
theorem dX11_ticks_223 : decode cX11_ticks 223 = .ok (.aload_n 1, 1) := by decide +kernel
theorem dX11_ticks_224 : decode cX11_ticks 224 = .ok (.iconst 3, 1) := by decide +kernel
theorem dX11_ticks_225 : decode cX11_ticks 225 = .ok (.dup2, 1) := by decide +kernel
theorem dX11_ticks_226 : decode cX11_ticks 226 = .ok (.iaload, 1) := by decide +kernel
theorem dX11_ticks_227 : decode cX11_ticks 227 = .ok (.iconst 1, 1) := by decide +kernel
theorem dX11_ticks_228 : decode cX11_ticks 228 = .ok (.iadd, 1) := by decide +kernel
theorem dX11_ticks_229 : decode cX11_ticks 229 = .ok (.iastore, 1) := by decide +kernel
theorem dX11_ticks_230 : decode cX11_ticks 230 = .ok (.aload_n 0, 1) := by decide +kernel
theorem dX11_ticks_231 : decode cX11_ticks 231 = .ok (.aload_n 1, 1) := by decide +kernel
theorem dX11_ticks_232 : decode cX11_ticks 232 = .ok (.iconst 5, 1) := by decide +kernel
theorem dX11_ticks_233 : decode cX11_ticks 233 = .ok (.invokevirtual 271, 3) := by decide +kernel
theorem dX11_ticks_236 : decode cX11_ticks 236 = .ok (.iload 4, 2) := by decide +kernel
theorem dX11_ticks_238 : decode cX11_ticks 238 = .ok (.ireturn, 1) := by decide +kernel
theorem dX11_isOutlet_0 : decode cX11_isOutlet 0 = .ok (.iload_n 1, 1) := by decide +kernel
theorem dX11_isOutlet_1 : decode cX11_isOutlet 1 = .ok (.i2l, 1) := by decide +kernel
theorem dX11_isOutlet_2 : decode cX11_isOutlet 2 = .ok (.lconst 0, 1) := by decide +kernel
theorem dX11_isOutlet_3 : decode cX11_isOutlet 3 = .ok (.aload_n 0, 1) := by decide +kernel
theorem dX11_isOutlet_4 : decode cX11_isOutlet 4 = .ok (.getfield 207, 3) := by decide +kernel
theorem dX11_isOutlet_7 : decode cX11_isOutlet 7 = .ok (.iconst 1, 1) := by decide +kernel
theorem dX11_isOutlet_8 : decode cX11_isOutlet 8 = .ok (.isub, 1) := by decide +kernel
theorem dX11_isOutlet_9 : decode cX11_isOutlet 9 = .ok (.i2l, 1) := by decide +kernel
theorem dX11_isOutlet_10 : decode cX11_isOutlet 10 = .ok (.invokestatic 82, 3) := by decide +kernel
theorem dX11_isOutlet_13 : decode cX11_isOutlet 13 = .ok (.ireturn, 1) := by decide +kernel
theorem dX11_count_0 : decode cX11_count 0 = .ok (.aload_n 0, 1) := by decide +kernel
theorem dX11_count_1 : decode cX11_count 1 = .ok (.iconst 0, 1) := by decide +kernel
theorem dX11_count_2 : decode cX11_count 2 = .ok (.putfield 72, 3) := by decide +kernel
theorem dX11_count_5 : decode cX11_count 5 = .ok (.aload_n 0, 1) := by decide +kernel
theorem dX11_count_6 : decode cX11_count 6 = .ok (.iload_n 1, 1) := by decide +kernel
theorem dX11_count_7 : decode cX11_count 7 = .ok (.i2l, 1) := by decide +kernel
theorem dX11_count_8 : decode cX11_count 8 = .ok (.lconst 0, 1) := by decide +kernel
theorem dX11_count_9 : decode cX11_count 9 = .ok (.ldc2_w 299, 3) := by decide +kernel
theorem dX11_count_12 : decode cX11_count 12 = .ok (.invokestatic 82, 3) := by decide +kernel
theorem dX11_count_15 : decode cX11_count 15 = .ok (.iconst 1, 1) := by decide +kernel
theorem dX11_count_16 : decode cX11_count 16 = .ok (.invokevirtual 78, 3) := by decide +kernel
theorem dX11_count_19 : decode cX11_count 19 = .ok (.ifCond .ne 5, 3) := by decide +kernel
theorem dX11_count_22 : decode cX11_count 22 = .ok (.iconst 0, 1) := by decide +kernel
theorem dX11_count_23 : decode cX11_count 23 = .ok (.ireturn, 1) := by decide +kernel
theorem dX11_count_24 : decode cX11_count 24 = .ok (.iload_n 1, 1) := by decide +kernel
theorem dX11_count_25 : decode cX11_count 25 = .ok (.tableswitch 169 0 12 #[67, 72, 77, 84, 101, 108, 115, 123, 130, 137, 145, 153, 161], 67) := by decide +kernel
theorem dX11_count_92 : decode cX11_count 92 = .ok (.aload_n 0, 1) := by decide +kernel
theorem dX11_count_93 : decode cX11_count 93 = .ok (.getfield 207, 3) := by decide +kernel
theorem dX11_count_96 : decode cX11_count 96 = .ok (.ireturn, 1) := by decide +kernel
theorem dX11_count_97 : decode cX11_count 97 = .ok (.aload_n 0, 1) := by decide +kernel
theorem dX11_count_98 : decode cX11_count 98 = .ok (.getfield 210, 3) := by decide +kernel
theorem dX11_count_101 : decode cX11_count 101 = .ok (.ireturn, 1) := by decide +kernel
theorem dX11_count_102 : decode cX11_count 102 = .ok (.aload_n 0, 1) := by decide +kernel
theorem dX11_count_103 : decode cX11_count 103 = .ok (.getfield 25, 3) := by decide +kernel
theorem dX11_count_106 : decode cX11_count 106 = .ok (.iconst 0, 1) := by decide +kernel
theorem dX11_count_107 : decode cX11_count 107 = .ok (.iaload, 1) := by decide +kernel
theorem dX11_count_108 : decode cX11_count 108 = .ok (.ireturn, 1) := by decide +kernel
theorem dX11_count_109 : decode cX11_count 109 = .ok (.aload_n 0, 1) := by decide +kernel
theorem dX11_count_110 : decode cX11_count 110 = .ok (.aload_n 0, 1) := by decide +kernel
theorem dX11_count_111 : decode cX11_count 111 = .ok (.getfield 25, 3) := by decide +kernel
theorem dX11_count_114 : decode cX11_count 114 = .ok (.invokevirtual 275, 3) := by decide +kernel
theorem dX11_count_117 : decode cX11_count 117 = .ok (.ifCond .eq 7, 3) := by decide +kernel
theorem dX11_count_120 : decode cX11_count 120 = .ok (.iconst 0, 1) := by decide +kernel
theorem dX11_count_121 : decode cX11_count 121 = .ok (.goto 4, 3) := by decide +kernel
theorem dX11_count_124 : decode cX11_count 124 = .ok (.iconst 1, 1) := by decide +kernel
theorem dX11_count_125 : decode cX11_count 125 = .ok (.ireturn, 1) := by decide +kernel
theorem dX11_count_126 : decode cX11_count 126 = .ok (.aload_n 0, 1) := by decide +kernel
theorem dX11_count_127 : decode cX11_count 127 = .ok (.getfield 25, 3) := by decide +kernel
theorem dX11_count_130 : decode cX11_count 130 = .ok (.iconst 2, 1) := by decide +kernel
theorem dX11_count_131 : decode cX11_count 131 = .ok (.iaload, 1) := by decide +kernel
theorem dX11_count_132 : decode cX11_count 132 = .ok (.ireturn, 1) := by decide +kernel
theorem dX11_count_133 : decode cX11_count 133 = .ok (.aload_n 0, 1) := by decide +kernel
theorem dX11_count_134 : decode cX11_count 134 = .ok (.getfield 25, 3) := by decide +kernel
theorem dX11_count_137 : decode cX11_count 137 = .ok (.iconst 3, 1) := by decide +kernel
theorem dX11_count_138 : decode cX11_count 138 = .ok (.iaload, 1) := by decide +kernel
theorem dX11_count_139 : decode cX11_count 139 = .ok (.ireturn, 1) := by decide +kernel
theorem dX11_count_140 : decode cX11_count 140 = .ok (.aload_n 0, 1) := by decide +kernel
theorem dX11_count_141 : decode cX11_count 141 = .ok (.getfield 25, 3) := by decide +kernel
theorem dX11_count_144 : decode cX11_count 144 = .ok (.bipush 11, 2) := by decide +kernel
theorem dX11_count_146 : decode cX11_count 146 = .ok (.iaload, 1) := by decide +kernel
theorem dX11_count_147 : decode cX11_count 147 = .ok (.ireturn, 1) := by decide +kernel
theorem dX11_count_148 : decode cX11_count 148 = .ok (.aload_n 0, 1) := by decide +kernel
theorem dX11_count_149 : decode cX11_count 149 = .ok (.getfield 25, 3) := by decide +kernel
theorem dX11_count_152 : decode cX11_count 152 = .ok (.iconst 4, 1) := by decide +kernel
theorem dX11_count_153 : decode cX11_count 153 = .ok (.iaload, 1) := by decide +kernel
theorem dX11_count_154 : decode cX11_count 154 = .ok (.ireturn, 1) := by decide +kernel
theorem dX11_count_155 : decode cX11_count 155 = .ok (.aload_n 0, 1) := by decide +kernel
theorem dX11_count_156 : decode cX11_count 156 = .ok (.getfield 25, 3) := by decide +kernel
theorem dX11_count_159 : decode cX11_count 159 = .ok (.iconst 5, 1) := by decide +kernel
theorem dX11_count_160 : decode cX11_count 160 = .ok (.iaload, 1) := by decide +kernel
theorem dX11_count_161 : decode cX11_count 161 = .ok (.ireturn, 1) := by decide +kernel
theorem dX11_count_162 : decode cX11_count 162 = .ok (.aload_n 0, 1) := by decide +kernel
theorem dX11_count_163 : decode cX11_count 163 = .ok (.getfield 25, 3) := by decide +kernel
theorem dX11_count_166 : decode cX11_count 166 = .ok (.bipush 6, 2) := by decide +kernel
theorem dX11_count_168 : decode cX11_count 168 = .ok (.iaload, 1) := by decide +kernel
theorem dX11_count_169 : decode cX11_count 169 = .ok (.ireturn, 1) := by decide +kernel
theorem dX11_count_170 : decode cX11_count 170 = .ok (.aload_n 0, 1) := by decide +kernel
theorem dX11_count_171 : decode cX11_count 171 = .ok (.getfield 25, 3) := by decide +kernel
theorem dX11_count_174 : decode cX11_count 174 = .ok (.bipush 7, 2) := by decide +kernel
theorem dX11_count_176 : decode cX11_count 176 = .ok (.iaload, 1) := by decide +kernel
theorem dX11_count_177 : decode cX11_count 177 = .ok (.ireturn, 1) := by decide +kernel
theorem dX11_count_178 : decode cX11_count 178 = .ok (.aload_n 0, 1) := by decide +kernel
theorem dX11_count_179 : decode cX11_count 179 = .ok (.getfield 25, 3) := by decide +kernel
theorem dX11_count_182 : decode cX11_count 182 = .ok (.bipush 8, 2) := by decide +kernel
theorem dX11_count_184 : decode cX11_count 184 = .ok (.iaload, 1) := by decide +kernel
theorem dX11_count_185 : decode cX11_count 185 = .ok (.ireturn, 1) := by decide +kernel
theorem dX11_count_186 : decode cX11_count 186 = .ok (.aload_n 0, 1) := by decide +kernel
theorem dX11_count_187 : decode cX11_count 187 = .ok (.getfield 25, 3) := by decide +kernel
theorem dX11_count_190 : decode cX11_count 190 = .ok (.bipush 9, 2) := by decide +kernel
theorem dX11_count_192 : decode cX11_count 192 = .ok (.iaload, 1) := by decide +kernel
theorem dX11_count_193 : decode cX11_count 193 = .ok (.ireturn, 1) := by decide +kernel
theorem dX11_count_194 : decode cX11_count 194 = .ok (.aload_n 0, 1) := by decide +kernel
theorem dX11_count_195 : decode cX11_count 195 = .ok (.getfield 219, 3) := by decide +kernel
theorem dX11_count_198 : decode cX11_count 198 = .ok (.ireturn, 1) := by decide +kernel
theorem dX11_outlet_0 : decode cX11_outlet 0 = .ok (.aload_n 0, 1) := by decide +kernel
theorem dX11_outlet_1 : decode cX11_outlet 1 = .ok (.iconst 0, 1) := by decide +kernel
theorem dX11_outlet_2 : decode cX11_outlet 2 = .ok (.putfield 72, 3) := by decide +kernel
theorem dX11_outlet_5 : decode cX11_outlet 5 = .ok (.aload_n 0, 1) := by decide +kernel
theorem dX11_outlet_6 : decode cX11_outlet 6 = .ok (.aload_n 0, 1) := by decide +kernel
theorem dX11_outlet_7 : decode cX11_outlet 7 = .ok (.iload_n 1, 1) := by decide +kernel
theorem dX11_outlet_8 : decode cX11_outlet 8 = .ok (.invokevirtual 301, 3) := by decide +kernel
theorem dX11_outlet_11 : decode cX11_outlet 11 = .ok (.iconst 1, 1) := by decide +kernel
theorem dX11_outlet_12 : decode cX11_outlet 12 = .ok (.invokevirtual 78, 3) := by decide +kernel
theorem dX11_outlet_15 : decode cX11_outlet 15 = .ok (.ifCond .eq 20, 3) := by decide +kernel
theorem dX11_outlet_18 : decode cX11_outlet 18 = .ok (.aload_n 0, 1) := by decide +kernel
theorem dX11_outlet_19 : decode cX11_outlet 19 = .ok (.iload_n 2, 1) := by decide +kernel
theorem dX11_outlet_20 : decode cX11_outlet 20 = .ok (.i2l, 1) := by decide +kernel
theorem dX11_outlet_21 : decode cX11_outlet 21 = .ok (.lconst 0, 1) := by decide +kernel
theorem dX11_outlet_22 : decode cX11_outlet 22 = .ok (.ldc2_w 304, 3) := by decide +kernel
theorem dX11_outlet_25 : decode cX11_outlet 25 = .ok (.invokestatic 82, 3) := by decide +kernel
theorem dX11_outlet_28 : decode cX11_outlet 28 = .ok (.iconst 2, 1) := by decide +kernel
theorem dX11_outlet_29 : decode cX11_outlet 29 = .ok (.invokevirtual 78, 3) := by decide +kernel
theorem dX11_outlet_32 : decode cX11_outlet 32 = .ok (.ifCond .ne 5, 3) := by decide +kernel
theorem dX11_outlet_35 : decode cX11_outlet 35 = .ok (.iconst 0, 1) := by decide +kernel
theorem dX11_outlet_36 : decode cX11_outlet 36 = .ok (.ireturn, 1) := by decide +kernel
theorem dX11_outlet_37 : decode cX11_outlet 37 = .ok (.iload_n 2, 1) := by decide +kernel
theorem dX11_outlet_38 : decode cX11_outlet 38 = .ok (.iconst 4, 1) := by decide +kernel
theorem dX11_outlet_39 : decode cX11_outlet 39 = .ok (.if_icmp .ge 16, 3) := by decide +kernel
theorem dX11_outlet_42 : decode cX11_outlet 42 = .ok (.aload_n 0, 1) := by decide +kernel
theorem dX11_outlet_43 : decode cX11_outlet 43 = .ok (.getfield 7, 3) := by decide +kernel
theorem dX11_outlet_46 : decode cX11_outlet 46 = .ok (.iconst 4, 1) := by decide +kernel
theorem dX11_outlet_47 : decode cX11_outlet 47 = .ok (.iload_n 1, 1) := by decide +kernel
theorem dX11_outlet_48 : decode cX11_outlet 48 = .ok (.imul, 1) := by decide +kernel
theorem dX11_outlet_49 : decode cX11_outlet 49 = .ok (.iload_n 2, 1) := by decide +kernel
theorem dX11_outlet_50 : decode cX11_outlet 50 = .ok (.iadd, 1) := by decide +kernel
theorem dX11_outlet_51 : decode cX11_outlet 51 = .ok (.iaload, 1) := by decide +kernel
theorem dX11_outlet_52 : decode cX11_outlet 52 = .ok (.goto 15, 3) := by decide +kernel
theorem dX11_outlet_55 : decode cX11_outlet 55 = .ok (.aload_n 0, 1) := by decide +kernel
theorem dX11_outlet_56 : decode cX11_outlet 56 = .ok (.getfield 25, 3) := by decide +kernel
theorem dX11_outlet_59 : decode cX11_outlet 59 = .ok (.iload_n 1, 1) := by decide +kernel
theorem dX11_outlet_60 : decode cX11_outlet 60 = .ok (.iload_n 2, 1) := by decide +kernel
theorem dX11_outlet_61 : decode cX11_outlet 61 = .ok (.iconst 4, 1) := by decide +kernel
theorem dX11_outlet_62 : decode cX11_outlet 62 = .ok (.isub, 1) := by decide +kernel
theorem dX11_outlet_63 : decode cX11_outlet 63 = .ok (.invokestatic 157, 3) := by decide +kernel
theorem dX11_outlet_66 : decode cX11_outlet 66 = .ok (.iaload, 1) := by decide +kernel
theorem dX11_outlet_67 : decode cX11_outlet 67 = .ok (.ireturn, 1) := by decide +kernel
theorem dX11_known_0 : decode cX11_known 0 = .ok (.aload_n 0, 1) := by decide +kernel
theorem dX11_known_1 : decode cX11_known 1 = .ok (.iconst 0, 1) := by decide +kernel
theorem dX11_known_2 : decode cX11_known 2 = .ok (.putfield 72, 3) := by decide +kernel
theorem dX11_known_5 : decode cX11_known 5 = .ok (.aload_n 0, 1) := by decide +kernel
theorem dX11_known_6 : decode cX11_known 6 = .ok (.aload_n 0, 1) := by decide +kernel
theorem dX11_known_7 : decode cX11_known 7 = .ok (.iload_n 1, 1) := by decide +kernel
theorem dX11_known_8 : decode cX11_known 8 = .ok (.invokevirtual 301, 3) := by decide +kernel
theorem dX11_known_11 : decode cX11_known 11 = .ok (.iconst 1, 1) := by decide +kernel
theorem dX11_known_12 : decode cX11_known 12 = .ok (.invokevirtual 78, 3) := by decide +kernel
theorem dX11_known_15 : decode cX11_known 15 = .ok (.ifCond .eq 20, 3) := by decide +kernel
theorem dX11_known_18 : decode cX11_known 18 = .ok (.aload_n 0, 1) := by decide +kernel
theorem dX11_known_19 : decode cX11_known 19 = .ok (.iload_n 2, 1) := by decide +kernel
theorem dX11_known_20 : decode cX11_known 20 = .ok (.i2l, 1) := by decide +kernel
theorem dX11_known_21 : decode cX11_known 21 = .ok (.lconst 0, 1) := by decide +kernel
theorem dX11_known_22 : decode cX11_known 22 = .ok (.ldc2_w 306, 3) := by decide +kernel
theorem dX11_known_25 : decode cX11_known 25 = .ok (.invokestatic 82, 3) := by decide +kernel
theorem dX11_known_28 : decode cX11_known 28 = .ok (.iconst 2, 1) := by decide +kernel
theorem dX11_known_29 : decode cX11_known 29 = .ok (.invokevirtual 78, 3) := by decide +kernel
theorem dX11_known_32 : decode cX11_known 32 = .ok (.ifCond .ne 5, 3) := by decide +kernel
theorem dX11_known_35 : decode cX11_known 35 = .ok (.iconst 0, 1) := by decide +kernel
theorem dX11_known_36 : decode cX11_known 36 = .ok (.ireturn, 1) := by decide +kernel
theorem dX11_known_37 : decode cX11_known 37 = .ok (.iload_n 2, 1) := by decide +kernel
theorem dX11_known_38 : decode cX11_known 38 = .ok (.tableswitch 88 0 4 #[34, 46, 58, 68, 78], 34) := by decide +kernel
theorem dX11_known_72 : decode cX11_known 72 = .ok (.aload_n 0, 1) := by decide +kernel
theorem dX11_known_73 : decode cX11_known 73 = .ok (.getfield 25, 3) := by decide +kernel
theorem dX11_known_76 : decode cX11_known 76 = .ok (.iload_n 1, 1) := by decide +kernel
theorem dX11_known_77 : decode cX11_known 77 = .ok (.bipush 9, 2) := by decide +kernel
theorem dX11_known_79 : decode cX11_known 79 = .ok (.invokestatic 157, 3) := by decide +kernel
theorem dX11_known_82 : decode cX11_known 82 = .ok (.iaload, 1) := by decide +kernel
theorem dX11_known_83 : decode cX11_known 83 = .ok (.ireturn, 1) := by decide +kernel
theorem dX11_known_84 : decode cX11_known 84 = .ok (.aload_n 0, 1) := by decide +kernel
theorem dX11_known_85 : decode cX11_known 85 = .ok (.getfield 25, 3) := by decide +kernel
theorem dX11_known_88 : decode cX11_known 88 = .ok (.iload_n 1, 1) := by decide +kernel
theorem dX11_known_89 : decode cX11_known 89 = .ok (.bipush 10, 2) := by decide +kernel
theorem dX11_known_91 : decode cX11_known 91 = .ok (.invokestatic 157, 3) := by decide +kernel
theorem dX11_known_94 : decode cX11_known 94 = .ok (.iaload, 1) := by decide +kernel
theorem dX11_known_95 : decode cX11_known 95 = .ok (.ireturn, 1) := by decide +kernel
theorem dX11_known_96 : decode cX11_known 96 = .ok (.aload_n 0, 1) := by decide +kernel
theorem dX11_known_97 : decode cX11_known 97 = .ok (.aload_n 0, 1) := by decide +kernel
theorem dX11_known_98 : decode cX11_known 98 = .ok (.getfield 25, 3) := by decide +kernel
theorem dX11_known_101 : decode cX11_known 101 = .ok (.iload_n 1, 1) := by decide +kernel
theorem dX11_known_102 : decode cX11_known 102 = .ok (.invokevirtual 235, 3) := by decide +kernel
theorem dX11_known_105 : decode cX11_known 105 = .ok (.ireturn, 1) := by decide +kernel
theorem dX11_known_106 : decode cX11_known 106 = .ok (.aload_n 0, 1) := by decide +kernel
theorem dX11_known_107 : decode cX11_known 107 = .ok (.aload_n 0, 1) := by decide +kernel
theorem dX11_known_108 : decode cX11_known 108 = .ok (.getfield 25, 3) := by decide +kernel
theorem dX11_known_111 : decode cX11_known 111 = .ok (.iload_n 1, 1) := by decide +kernel
theorem dX11_known_112 : decode cX11_known 112 = .ok (.invokevirtual 238, 3) := by decide +kernel
theorem dX11_known_115 : decode cX11_known 115 = .ok (.ireturn, 1) := by decide +kernel
theorem dX11_known_116 : decode cX11_known 116 = .ok (.aload_n 0, 1) := by decide +kernel
theorem dX11_known_117 : decode cX11_known 117 = .ok (.aload_n 0, 1) := by decide +kernel
theorem dX11_known_118 : decode cX11_known 118 = .ok (.getfield 25, 3) := by decide +kernel
theorem dX11_known_121 : decode cX11_known 121 = .ok (.iload_n 1, 1) := by decide +kernel
theorem dX11_known_122 : decode cX11_known 122 = .ok (.invokevirtual 257, 3) := by decide +kernel
theorem dX11_known_125 : decode cX11_known 125 = .ok (.ireturn, 1) := by decide +kernel
theorem dX11_known_126 : decode cX11_known 126 = .ok (.aload_n 0, 1) := by decide +kernel
theorem dX11_known_127 : decode cX11_known 127 = .ok (.getfield 25, 3) := by decide +kernel
theorem dX11_known_130 : decode cX11_known 130 = .ok (.iload_n 1, 1) := by decide +kernel
theorem dX11_known_131 : decode cX11_known 131 = .ok (.bipush 11, 2) := by decide +kernel
theorem dX11_known_133 : decode cX11_known 133 = .ok (.invokestatic 157, 3) := by decide +kernel
theorem dX11_known_136 : decode cX11_known 136 = .ok (.iaload, 1) := by decide +kernel
theorem dX11_known_137 : decode cX11_known 137 = .ok (.ireturn, 1) := by decide +kernel
theorem dX11_needs_0 : decode cX11_needs 0 = .ok (.aload_n 0, 1) := by decide +kernel
theorem dX11_needs_1 : decode cX11_needs 1 = .ok (.iconst 0, 1) := by decide +kernel
theorem dX11_needs_2 : decode cX11_needs 2 = .ok (.putfield 72, 3) := by decide +kernel
theorem dX11_needs_5 : decode cX11_needs 5 = .ok (.aload_n 0, 1) := by decide +kernel
theorem dX11_needs_6 : decode cX11_needs 6 = .ok (.aload_n 0, 1) := by decide +kernel
theorem dX11_needs_7 : decode cX11_needs 7 = .ok (.iload_n 1, 1) := by decide +kernel
theorem dX11_needs_8 : decode cX11_needs 8 = .ok (.invokevirtual 301, 3) := by decide +kernel
theorem dX11_needs_11 : decode cX11_needs 11 = .ok (.iconst 1, 1) := by decide +kernel
theorem dX11_needs_12 : decode cX11_needs 12 = .ok (.invokevirtual 78, 3) := by decide +kernel
theorem dX11_needs_15 : decode cX11_needs 15 = .ok (.ifCond .ne 5, 3) := by decide +kernel
theorem dX11_needs_18 : decode cX11_needs 18 = .ok (.iconst 0, 1) := by decide +kernel
theorem dX11_needs_19 : decode cX11_needs 19 = .ok (.ireturn, 1) := by decide +kernel
theorem dX11_needs_20 : decode cX11_needs 20 = .ok (.iconst 0, 1) := by decide +kernel
theorem dX11_needs_21 : decode cX11_needs 21 = .ok (.istore_n 3, 1) := by decide +kernel
theorem dX11_needs_22 : decode cX11_needs 22 = .ok (.iconst 0, 1) := by decide +kernel
theorem dX11_needs_23 : decode cX11_needs 23 = .ok (.istore 4, 2) := by decide +kernel
theorem dX11_needs_25 : decode cX11_needs 25 = .ok (.iload 4, 2) := by decide +kernel
theorem dX11_needs_27 : decode cX11_needs 27 = .ok (.aload_n 0, 1) := by decide +kernel
theorem dX11_needs_28 : decode cX11_needs 28 = .ok (.getfield 207, 3) := by decide +kernel
theorem dX11_needs_31 : decode cX11_needs 31 = .ok (.if_icmp .ge 26, 3) := by decide +kernel
theorem dX11_needs_34 : decode cX11_needs 34 = .ok (.iload_n 3, 1) := by decide +kernel
theorem dX11_needs_35 : decode cX11_needs 35 = .ok (.aload_n 0, 1) := by decide +kernel
theorem dX11_needs_36 : decode cX11_needs 36 = .ok (.getfield 13, 3) := by decide +kernel
theorem dX11_needs_39 : decode cX11_needs 39 = .ok (.iload 4, 2) := by decide +kernel
theorem dX11_needs_41 : decode cX11_needs 41 = .ok (.iaload, 1) := by decide +kernel
theorem dX11_needs_42 : decode cX11_needs 42 = .ok (.iload_n 1, 1) := by decide +kernel
theorem dX11_needs_43 : decode cX11_needs 43 = .ok (.ishr, 1) := by decide +kernel
theorem dX11_needs_44 : decode cX11_needs 44 = .ok (.iconst 1, 1) := by decide +kernel
theorem dX11_needs_45 : decode cX11_needs 45 = .ok (.iand, 1) := by decide +kernel
theorem dX11_needs_46 : decode cX11_needs 46 = .ok (.iload 4, 2) := by decide +kernel
theorem dX11_needs_48 : decode cX11_needs 48 = .ok (.ishl, 1) := by decide +kernel
theorem dX11_needs_49 : decode cX11_needs 49 = .ok (.ior, 1) := by decide +kernel
theorem dX11_needs_50 : decode cX11_needs 50 = .ok (.istore_n 3, 1) := by decide +kernel
theorem dX11_needs_51 : decode cX11_needs 51 = .ok (.iinc 4 1, 3) := by decide +kernel
theorem dX11_needs_54 : decode cX11_needs 54 = .ok (.goto (-29), 3) := by decide +kernel
theorem dX11_needs_57 : decode cX11_needs 57 = .ok (.iload_n 2, 1) := by decide +kernel
theorem dX11_needs_58 : decode cX11_needs 58 = .ok (.ifCond .eq 7, 3) := by decide +kernel
theorem dX11_needs_61 : decode cX11_needs 61 = .ok (.iload_n 3, 1) := by decide +kernel
theorem dX11_needs_62 : decode cX11_needs 62 = .ok (.goto 9, 3) := by decide +kernel
theorem dX11_needs_65 : decode cX11_needs 65 = .ok (.aload_n 0, 1) := by decide +kernel
theorem dX11_needs_66 : decode cX11_needs 66 = .ok (.getfield 13, 3) := by decide +kernel
theorem dX11_needs_69 : decode cX11_needs 69 = .ok (.iload_n 1, 1) := by decide +kernel
theorem dX11_needs_70 : decode cX11_needs 70 = .ok (.iaload, 1) := by decide +kernel
theorem dX11_needs_71 : decode cX11_needs 71 = .ok (.ireturn, 1) := by decide +kernel
theorem dX11_outletsWith_0 : decode cX11_outletsWith 0 = .ok (.aload_n 0, 1) := by decide +kernel
theorem dX11_outletsWith_1 : decode cX11_outletsWith 1 = .ok (.iconst 0, 1) := by decide +kernel
theorem dX11_outletsWith_2 : decode cX11_outletsWith 2 = .ok (.putfield 72, 3) := by decide +kernel
theorem dX11_outletsWith_5 : decode cX11_outletsWith 5 = .ok (.aload_n 0, 1) := by decide +kernel
theorem dX11_outletsWith_6 : decode cX11_outletsWith 6 = .ok (.iload_n 1, 1) := by decide +kernel
theorem dX11_outletsWith_7 : decode cX11_outletsWith 7 = .ok (.i2l, 1) := by decide +kernel
theorem dX11_outletsWith_8 : decode cX11_outletsWith 8 = .ok (.lconst 0, 1) := by decide +kernel
theorem dX11_outletsWith_9 : decode cX11_outletsWith 9 = .ok (.ldc2_w 308, 3) := by decide +kernel
theorem dX11_outletsWith_12 : decode cX11_outletsWith 12 = .ok (.invokestatic 82, 3) := by decide +kernel
theorem dX11_outletsWith_15 : decode cX11_outletsWith 15 = .ok (.iconst 1, 1) := by decide +kernel
theorem dX11_outletsWith_16 : decode cX11_outletsWith 16 = .ok (.invokevirtual 78, 3) := by decide +kernel
theorem dX11_outletsWith_19 : decode cX11_outletsWith 19 = .ok (.ifCond .eq 25, 3) := by decide +kernel
theorem dX11_outletsWith_22 : decode cX11_outletsWith 22 = .ok (.aload_n 0, 1) := by decide +kernel
theorem dX11_outletsWith_23 : decode cX11_outletsWith 23 = .ok (.aload_n 0, 1) := by decide +kernel
theorem dX11_outletsWith_24 : decode cX11_outletsWith 24 = .ok (.getfield 25, 3) := by decide +kernel
theorem dX11_outletsWith_27 : decode cX11_outletsWith 27 = .ok (.iload_n 2, 1) := by decide +kernel
theorem dX11_outletsWith_28 : decode cX11_outletsWith 28 = .ok (.ifCond .eq 8, 3) := by decide +kernel
theorem dX11_outletsWith_31 : decode cX11_outletsWith 31 = .ok (.bipush 9, 2) := by decide +kernel
theorem dX11_outletsWith_33 : decode cX11_outletsWith 33 = .ok (.goto 4, 3) := by decide +kernel
theorem dX11_outletsWith_36 : decode cX11_outletsWith 36 = .ok (.iconst 2, 1) := by decide +kernel
theorem dX11_outletsWith_37 : decode cX11_outletsWith 37 = .ok (.iload_n 1, 1) := by decide +kernel
theorem dX11_outletsWith_38 : decode cX11_outletsWith 38 = .ok (.invokevirtual 249, 3) := by decide +kernel
theorem dX11_outletsWith_41 : decode cX11_outletsWith 41 = .ok (.goto 4, 3) := by decide +kernel
theorem dX11_outletsWith_44 : decode cX11_outletsWith 44 = .ok (.iconst 0, 1) := by decide +kernel
theorem dX11_outletsWith_45 : decode cX11_outletsWith 45 = .ok (.ireturn, 1) := by decide +kernel
theorem dX11_rights_0 : decode cX11_rights 0 = .ok (.aload_n 0, 1) := by decide +kernel
theorem dX11_rights_1 : decode cX11_rights 1 = .ok (.iconst 0, 1) := by decide +kernel
theorem dX11_rights_2 : decode cX11_rights 2 = .ok (.putfield 72, 3) := by decide +kernel
theorem dX11_rights_5 : decode cX11_rights 5 = .ok (.aload_n 0, 1) := by decide +kernel
theorem dX11_rights_6 : decode cX11_rights 6 = .ok (.aload_n 0, 1) := by decide +kernel
theorem dX11_rights_7 : decode cX11_rights 7 = .ok (.getfield 25, 3) := by decide +kernel
theorem dX11_rights_10 : decode cX11_rights 10 = .ok (.invokevirtual 245, 3) := by decide +kernel
theorem dX11_rights_13 : decode cX11_rights 13 = .ok (.ireturn, 1) := by decide +kernel
theorem dX11_load__0 : decode cX11_load_ 0 = .ok (.aload_n 0, 1) := by decide +kernel
theorem dX11_load__1 : decode cX11_load_ 1 = .ok (.iconst 0, 1) := by decide +kernel
theorem dX11_load__2 : decode cX11_load_ 2 = .ok (.putfield 72, 3) := by decide +kernel
theorem dX11_load__5 : decode cX11_load_ 5 = .ok (.aload_n 0, 1) := by decide +kernel
theorem dX11_load__6 : decode cX11_load_ 6 = .ok (.iload_n 1, 1) := by decide +kernel
theorem dX11_load__7 : decode cX11_load_ 7 = .ok (.i2l, 1) := by decide +kernel
theorem dX11_load__8 : decode cX11_load_ 8 = .ok (.lconst 0, 1) := by decide +kernel
theorem dX11_load__9 : decode cX11_load_ 9 = .ok (.ldc2_w 310, 3) := by decide +kernel
theorem dX11_load__12 : decode cX11_load_ 12 = .ok (.invokestatic 82, 3) := by decide +kernel
theorem dX11_load__15 : decode cX11_load_ 15 = .ok (.iconst 1, 1) := by decide +kernel
theorem dX11_load__16 : decode cX11_load_ 16 = .ok (.invokevirtual 78, 3) := by decide +kernel
theorem dX11_load__19 : decode cX11_load_ 19 = .ok (.ifCond .ne 5, 3) := by decide +kernel
theorem dX11_load__22 : decode cX11_load_ 22 = .ok (.iconst 0, 1) := by decide +kernel
theorem dX11_load__23 : decode cX11_load_ 23 = .ok (.ireturn, 1) := by decide +kernel
theorem dX11_load__24 : decode cX11_load_ 24 = .ok (.iload_n 1, 1) := by decide +kernel
theorem dX11_load__25 : decode cX11_load_ 25 = .ok (.ifCond .ne 14, 3) := by decide +kernel
theorem dX11_load__28 : decode cX11_load_ 28 = .ok (.aload_n 0, 1) := by decide +kernel
theorem dX11_load__29 : decode cX11_load_ 29 = .ok (.aload_n 0, 1) := by decide +kernel
theorem dX11_load__30 : decode cX11_load_ 30 = .ok (.getfield 25, 3) := by decide +kernel
theorem dX11_load__33 : decode cX11_load_ 33 = .ok (.invokevirtual 296, 3) := by decide +kernel
theorem dX11_load__36 : decode cX11_load_ 36 = .ok (.goto 26, 3) := by decide +kernel
theorem dX11_load__39 : decode cX11_load_ 39 = .ok (.iload_n 1, 1) := by decide +kernel
theorem dX11_load__40 : decode cX11_load_ 40 = .ok (.iconst 1, 1) := by decide +kernel
theorem dX11_load__41 : decode cX11_load_ 41 = .ok (.if_icmp .ne 13, 3) := by decide +kernel
theorem dX11_load__44 : decode cX11_load_ 44 = .ok (.aload_n 0, 1) := by decide +kernel
theorem dX11_load__45 : decode cX11_load_ 45 = .ok (.getfield 25, 3) := by decide +kernel
theorem dX11_load__48 : decode cX11_load_ 48 = .ok (.bipush 10, 2) := by decide +kernel
theorem dX11_load__50 : decode cX11_load_ 50 = .ok (.iaload, 1) := by decide +kernel
theorem dX11_load__51 : decode cX11_load_ 51 = .ok (.goto 11, 3) := by decide +kernel
theorem dX11_load__54 : decode cX11_load_ 54 = .ok (.aload_n 0, 1) := by decide +kernel
theorem dX11_load__55 : decode cX11_load_ 55 = .ok (.aload_n 0, 1) := by decide +kernel
theorem dX11_load__56 : decode cX11_load_ 56 = .ok (.getfield 25, 3) := by decide +kernel
theorem dX11_load__59 : decode cX11_load_ 59 = .ok (.invokevirtual 260, 3) := by decide +kernel
theorem dX11_load__62 : decode cX11_load_ 62 = .ok (.ireturn, 1) := by decide +kernel
theorem dX11_strain_0 : decode cX11_strain 0 = .ok (.aload_n 0, 1) := by decide +kernel
theorem dX11_strain_1 : decode cX11_strain 1 = .ok (.iconst 0, 1) := by decide +kernel
theorem dX11_strain_2 : decode cX11_strain 2 = .ok (.putfield 72, 3) := by decide +kernel
theorem dX11_strain_5 : decode cX11_strain 5 = .ok (.aload_n 0, 1) := by decide +kernel
theorem dX11_strain_6 : decode cX11_strain 6 = .ok (.getfield 25, 3) := by decide +kernel
theorem dX11_strain_9 : decode cX11_strain 9 = .ok (.bipush 10, 2) := by decide +kernel
theorem dX11_strain_11 : decode cX11_strain 11 = .ok (.iaload, 1) := by decide +kernel
theorem dX11_strain_12 : decode cX11_strain 12 = .ok (.i2d, 1) := by decide +kernel
theorem dX11_strain_13 : decode cX11_strain 13 = .ok (.aload_n 0, 1) := by decide +kernel
theorem dX11_strain_14 : decode cX11_strain 14 = .ok (.getfield 25, 3) := by decide +kernel
theorem dX11_strain_17 : decode cX11_strain 17 = .ok (.bipush 6, 2) := by decide +kernel
theorem dX11_strain_19 : decode cX11_strain 19 = .ok (.iaload, 1) := by decide +kernel
theorem dX11_strain_20 : decode cX11_strain 20 = .ok (.i2d, 1) := by decide +kernel
theorem dX11_strain_21 : decode cX11_strain 21 = .ok (.ddiv, 1) := by decide +kernel
theorem dX11_strain_22 : decode cX11_strain 22 = .ok (.dreturn, 1) := by decide +kernel
theorem dX11_message_0 : decode cX11_message 0 = .ok (.aload_n 0, 1) := by decide +kernel
theorem dX11_message_1 : decode cX11_message 1 = .ok (.iconst 0, 1) := by decide +kernel
theorem dX11_message_2 : decode cX11_message 2 = .ok (.putfield 72, 3) := by decide +kernel
theorem dX11_message_5 : decode cX11_message 5 = .ok (.aload_n 0, 1) := by decide +kernel
theorem dX11_message_6 : decode cX11_message 6 = .ok (.iload_n 1, 1) := by decide +kernel
theorem dX11_message_7 : decode cX11_message 7 = .ok (.i2l, 1) := by decide +kernel
theorem dX11_message_8 : decode cX11_message 8 = .ok (.lconst 0, 1) := by decide +kernel
theorem dX11_message_9 : decode cX11_message 9 = .ok (.aload_n 0, 1) := by decide +kernel
theorem dX11_message_10 : decode cX11_message 10 = .ok (.getfield 25, 3) := by decide +kernel
theorem dX11_message_13 : decode cX11_message 13 = .ok (.bipush 11, 2) := by decide +kernel
theorem dX11_message_15 : decode cX11_message 15 = .ok (.iaload, 1) := by decide +kernel
theorem dX11_message_16 : decode cX11_message 16 = .ok (.iconst 1, 1) := by decide +kernel
theorem dX11_message_17 : decode cX11_message 17 = .ok (.isub, 1) := by decide +kernel
theorem dX11_message_18 : decode cX11_message 18 = .ok (.i2l, 1) := by decide +kernel
theorem dX11_message_19 : decode cX11_message 19 = .ok (.invokestatic 82, 3) := by decide +kernel
theorem dX11_message_22 : decode cX11_message 22 = .ok (.iconst 1, 1) := by decide +kernel
theorem dX11_message_23 : decode cX11_message 23 = .ok (.invokevirtual 78, 3) := by decide +kernel
theorem dX11_message_26 : decode cX11_message 26 = .ok (.ifCond .eq 20, 3) := by decide +kernel
theorem dX11_message_29 : decode cX11_message 29 = .ok (.aload_n 0, 1) := by decide +kernel
theorem dX11_message_30 : decode cX11_message 30 = .ok (.iload_n 2, 1) := by decide +kernel
theorem dX11_message_31 : decode cX11_message 31 = .ok (.i2l, 1) := by decide +kernel
theorem dX11_message_32 : decode cX11_message 32 = .ok (.lconst 0, 1) := by decide +kernel
theorem dX11_message_33 : decode cX11_message 33 = .ok (.ldc2_w 310, 3) := by decide +kernel
theorem dX11_message_36 : decode cX11_message 36 = .ok (.invokestatic 82, 3) := by decide +kernel
theorem dX11_message_39 : decode cX11_message 39 = .ok (.iconst 2, 1) := by decide +kernel
theorem dX11_message_40 : decode cX11_message 40 = .ok (.invokevirtual 78, 3) := by decide +kernel
theorem dX11_message_43 : decode cX11_message 43 = .ok (.ifCond .ne 5, 3) := by decide +kernel
theorem dX11_message_46 : decode cX11_message 46 = .ok (.iconst 0, 1) := by decide +kernel
theorem dX11_message_47 : decode cX11_message 47 = .ok (.ireturn, 1) := by decide +kernel
theorem dX11_message_48 : decode cX11_message 48 = .ok (.aload_n 0, 1) := by decide +kernel
theorem dX11_message_49 : decode cX11_message 49 = .ok (.getfield 25, 3) := by decide +kernel
theorem dX11_message_52 : decode cX11_message 52 = .ok (.sipush 195, 3) := by decide +kernel
theorem dX11_message_55 : decode cX11_message 55 = .ok (.iconst 3, 1) := by decide +kernel
theorem dX11_message_56 : decode cX11_message 56 = .ok (.iload_n 1, 1) := by decide +kernel
theorem dX11_message_57 : decode cX11_message 57 = .ok (.imul, 1) := by decide +kernel
theorem dX11_message_58 : decode cX11_message 58 = .ok (.iadd, 1) := by decide +kernel
theorem dX11_message_59 : decode cX11_message 59 = .ok (.iload_n 2, 1) := by decide +kernel
theorem dX11_message_60 : decode cX11_message 60 = .ok (.iadd, 1) := by decide +kernel
theorem dX11_message_61 : decode cX11_message 61 = .ok (.iaload, 1) := by decide +kernel
theorem dX11_message_62 : decode cX11_message 62 = .ok (.ireturn, 1) := by decide +kernel
theorem dX11_traffic_0 : decode cX11_traffic 0 = .ok (.aload_n 0, 1) := by decide +kernel
theorem dX11_traffic_1 : decode cX11_traffic 1 = .ok (.iconst 0, 1) := by decide +kernel
theorem dX11_traffic_2 : decode cX11_traffic 2 = .ok (.putfield 72, 3) := by decide +kernel
theorem dX11_traffic_5 : decode cX11_traffic 5 = .ok (.aload_n 0, 1) := by decide +kernel
theorem dX11_traffic_6 : decode cX11_traffic 6 = .ok (.iload_n 1, 1) := by decide +kernel
theorem dX11_traffic_7 : decode cX11_traffic 7 = .ok (.i2l, 1) := by decide +kernel
theorem dX11_traffic_8 : decode cX11_traffic 8 = .ok (.lconst 0, 1) := by decide +kernel
theorem dX11_traffic_9 : decode cX11_traffic 9 = .ok (.ldc2_w 306, 3) := by decide +kernel
theorem dX11_traffic_12 : decode cX11_traffic 12 = .ok (.invokestatic 82, 3) := by decide +kernel
theorem dX11_traffic_15 : decode cX11_traffic 15 = .ok (.iconst 1, 1) := by decide +kernel
theorem dX11_traffic_16 : decode cX11_traffic 16 = .ok (.invokevirtual 78, 3) := by decide +kernel
theorem dX11_traffic_19 : decode cX11_traffic 19 = .ok (.ifCond .eq 24, 3) := by decide +kernel
theorem dX11_traffic_22 : decode cX11_traffic 22 = .ok (.aload_n 0, 1) := by decide +kernel
theorem dX11_traffic_23 : decode cX11_traffic 23 = .ok (.getfield 25, 3) := by decide +kernel
theorem dX11_traffic_26 : decode cX11_traffic 26 = .ok (.iload_n 2, 1) := by decide +kernel
theorem dX11_traffic_27 : decode cX11_traffic 27 = .ok (.ifCond .eq 8, 3) := by decide +kernel
theorem dX11_traffic_30 : decode cX11_traffic 30 = .ok (.bipush 21, 2) := by decide +kernel
theorem dX11_traffic_32 : decode cX11_traffic 32 = .ok (.goto 5, 3) := by decide +kernel
theorem dX11_traffic_35 : decode cX11_traffic 35 = .ok (.bipush 15, 2) := by decide +kernel
theorem dX11_traffic_37 : decode cX11_traffic 37 = .ok (.iload_n 1, 1) := by decide +kernel
theorem dX11_traffic_38 : decode cX11_traffic 38 = .ok (.iadd, 1) := by decide +kernel
theorem dX11_traffic_39 : decode cX11_traffic 39 = .ok (.iaload, 1) := by decide +kernel
theorem dX11_traffic_40 : decode cX11_traffic 40 = .ok (.goto 4, 3) := by decide +kernel
theorem dX11_traffic_43 : decode cX11_traffic 43 = .ok (.iconst 0, 1) := by decide +kernel
theorem dX11_traffic_44 : decode cX11_traffic 44 = .ok (.ireturn, 1) := by decide +kernel
theorem dX11_learned_0 : decode cX11_learned 0 = .ok (.aload_n 0, 1) := by decide +kernel
theorem dX11_learned_1 : decode cX11_learned 1 = .ok (.iconst 0, 1) := by decide +kernel
theorem dX11_learned_2 : decode cX11_learned 2 = .ok (.putfield 72, 3) := by decide +kernel
theorem dX11_learned_5 : decode cX11_learned 5 = .ok (.aload_n 0, 1) := by decide +kernel
theorem dX11_learned_6 : decode cX11_learned 6 = .ok (.iload_n 1, 1) := by decide +kernel
theorem dX11_learned_7 : decode cX11_learned 7 = .ok (.i2l, 1) := by decide +kernel
theorem dX11_learned_8 : decode cX11_learned 8 = .ok (.lconst 0, 1) := by decide +kernel
theorem dX11_learned_9 : decode cX11_learned 9 = .ok (.aload_n 0, 1) := by decide +kernel
theorem dX11_learned_10 : decode cX11_learned 10 = .ok (.getfield 25, 3) := by decide +kernel
theorem dX11_learned_13 : decode cX11_learned 13 = .ok (.bipush 13, 2) := by decide +kernel
theorem dX11_learned_15 : decode cX11_learned 15 = .ok (.iaload, 1) := by decide +kernel
theorem dX11_learned_16 : decode cX11_learned 16 = .ok (.iconst 1, 1) := by decide +kernel
theorem dX11_learned_17 : decode cX11_learned 17 = .ok (.isub, 1) := by decide +kernel
theorem dX11_learned_18 : decode cX11_learned 18 = .ok (.i2l, 1) := by decide +kernel
theorem dX11_learned_19 : decode cX11_learned 19 = .ok (.invokestatic 82, 3) := by decide +kernel
theorem dX11_learned_22 : decode cX11_learned 22 = .ok (.iconst 1, 1) := by decide +kernel
theorem dX11_learned_23 : decode cX11_learned 23 = .ok (.invokevirtual 78, 3) := by decide +kernel
theorem dX11_learned_26 : decode cX11_learned 26 = .ok (.ifCond .eq 15, 3) := by decide +kernel
theorem dX11_learned_29 : decode cX11_learned 29 = .ok (.aload_n 0, 1) := by decide +kernel
theorem dX11_learned_30 : decode cX11_learned 30 = .ok (.getfield 25, 3) := by decide +kernel
theorem dX11_learned_33 : decode cX11_learned 33 = .ok (.bipush 39, 2) := by decide +kernel
theorem dX11_learned_35 : decode cX11_learned 35 = .ok (.iload_n 1, 1) := by decide +kernel
theorem dX11_learned_36 : decode cX11_learned 36 = .ok (.iadd, 1) := by decide +kernel
theorem dX11_learned_37 : decode cX11_learned 37 = .ok (.iaload, 1) := by decide +kernel
theorem dX11_learned_38 : decode cX11_learned 38 = .ok (.goto 4, 3) := by decide +kernel
theorem dX11_learned_41 : decode cX11_learned 41 = .ok (.iconst 0, 1) := by decide +kernel
theorem dX11_learned_42 : decode cX11_learned 42 = .ok (.ireturn, 1) := by decide +kernel
theorem dX11_grants_0 : decode cX11_grants 0 = .ok (.aload_n 0, 1) := by decide +kernel
theorem dX11_grants_1 : decode cX11_grants 1 = .ok (.iconst 0, 1) := by decide +kernel
theorem dX11_grants_2 : decode cX11_grants 2 = .ok (.putfield 72, 3) := by decide +kernel
theorem dX11_grants_5 : decode cX11_grants 5 = .ok (.aload_n 0, 1) := by decide +kernel
theorem dX11_grants_6 : decode cX11_grants 6 = .ok (.aload_n 0, 1) := by decide +kernel
theorem dX11_grants_7 : decode cX11_grants 7 = .ok (.getfield 25, 3) := by decide +kernel
theorem dX11_grants_10 : decode cX11_grants 10 = .ok (.iconst 0, 1) := by decide +kernel
theorem dX11_grants_11 : decode cX11_grants 11 = .ok (.invokevirtual 292, 3) := by decide +kernel
theorem dX11_grants_14 : decode cX11_grants 14 = .ok (.ireturn, 1) := by decide +kernel
theorem dX11_why_0 : decode cX11_why 0 = .ok (.aload_n 0, 1) := by decide +kernel
theorem dX11_why_1 : decode cX11_why 1 = .ok (.iconst 0, 1) := by decide +kernel
theorem dX11_why_2 : decode cX11_why 2 = .ok (.putfield 72, 3) := by decide +kernel
theorem dX11_why_5 : decode cX11_why 5 = .ok (.aload_n 0, 1) := by decide +kernel
theorem dX11_why_6 : decode cX11_why 6 = .ok (.aload_n 0, 1) := by decide +kernel
theorem dX11_why_7 : decode cX11_why 7 = .ok (.iload_n 1, 1) := by decide +kernel
theorem dX11_why_8 : decode cX11_why 8 = .ok (.invokevirtual 301, 3) := by decide +kernel
theorem dX11_why_11 : decode cX11_why 11 = .ok (.iconst 1, 1) := by decide +kernel
theorem dX11_why_12 : decode cX11_why 12 = .ok (.invokevirtual 78, 3) := by decide +kernel
theorem dX11_why_15 : decode cX11_why 15 = .ok (.ifCond .ne 5, 3) := by decide +kernel
theorem dX11_why_18 : decode cX11_why 18 = .ok (.iconst 0, 1) := by decide +kernel
theorem dX11_why_19 : decode cX11_why 19 = .ok (.ireturn, 1) := by decide +kernel
theorem dX11_why_20 : decode cX11_why 20 = .ok (.aload_n 0, 1) := by decide +kernel
theorem dX11_why_21 : decode cX11_why 21 = .ok (.getfield 25, 3) := by decide +kernel
theorem dX11_why_24 : decode cX11_why 24 = .ok (.iload_n 1, 1) := by decide +kernel
theorem dX11_why_25 : decode cX11_why 25 = .ok (.iconst 1, 1) := by decide +kernel
theorem dX11_why_26 : decode cX11_why 26 = .ok (.invokestatic 157, 3) := by decide +kernel
theorem dX11_why_29 : decode cX11_why 29 = .ok (.iaload, 1) := by decide +kernel
theorem dX11_why_30 : decode cX11_why 30 = .ok (.ifCond .ne 5, 3) := by decide +kernel
theorem dX11_why_33 : decode cX11_why 33 = .ok (.iconst 1, 1) := by decide +kernel
theorem dX11_why_34 : decode cX11_why 34 = .ok (.ireturn, 1) := by decide +kernel
theorem dX11_why_35 : decode cX11_why 35 = .ok (.aload_n 0, 1) := by decide +kernel
theorem dX11_why_36 : decode cX11_why 36 = .ok (.getfield 25, 3) := by decide +kernel
theorem dX11_why_39 : decode cX11_why 39 = .ok (.iload_n 1, 1) := by decide +kernel
theorem dX11_why_40 : decode cX11_why 40 = .ok (.iconst 2, 1) := by decide +kernel
theorem dX11_why_41 : decode cX11_why 41 = .ok (.invokestatic 157, 3) := by decide +kernel
theorem dX11_why_44 : decode cX11_why 44 = .ok (.iaload, 1) := by decide +kernel
theorem dX11_why_45 : decode cX11_why 45 = .ok (.iconst 1, 1) := by decide +kernel
theorem dX11_why_46 : decode cX11_why 46 = .ok (.if_icmp .eq 5, 3) := by decide +kernel
theorem dX11_why_49 : decode cX11_why 49 = .ok (.iconst 2, 1) := by decide +kernel
theorem dX11_why_50 : decode cX11_why 50 = .ok (.ireturn, 1) := by decide +kernel
theorem dX11_why_51 : decode cX11_why 51 = .ok (.aload_n 0, 1) := by decide +kernel
theorem dX11_why_52 : decode cX11_why 52 = .ok (.aload_n 0, 1) := by decide +kernel
theorem dX11_why_53 : decode cX11_why 53 = .ok (.getfield 25, 3) := by decide +kernel
theorem dX11_why_56 : decode cX11_why 56 = .ok (.invokevirtual 275, 3) := by decide +kernel
theorem dX11_why_59 : decode cX11_why 59 = .ok (.ifCond .eq 5, 3) := by decide +kernel
theorem dX11_why_62 : decode cX11_why 62 = .ok (.iconst 3, 1) := by decide +kernel
theorem dX11_why_63 : decode cX11_why 63 = .ok (.ireturn, 1) := by decide +kernel
theorem dX11_why_64 : decode cX11_why 64 = .ok (.aload_n 0, 1) := by decide +kernel
theorem dX11_why_65 : decode cX11_why 65 = .ok (.getfield 25, 3) := by decide +kernel
theorem dX11_why_68 : decode cX11_why 68 = .ok (.iload_n 1, 1) := by decide +kernel
theorem dX11_why_69 : decode cX11_why 69 = .ok (.bipush 9, 2) := by decide +kernel
theorem dX11_why_71 : decode cX11_why 71 = .ok (.invokestatic 157, 3) := by decide +kernel
theorem dX11_why_74 : decode cX11_why 74 = .ok (.iaload, 1) := by decide +kernel
theorem dX11_why_75 : decode cX11_why 75 = .ok (.iconst 1, 1) := by decide +kernel
theorem dX11_why_76 : decode cX11_why 76 = .ok (.if_icmp .eq 5, 3) := by decide +kernel
theorem dX11_why_79 : decode cX11_why 79 = .ok (.iconst 4, 1) := by decide +kernel
theorem dX11_why_80 : decode cX11_why 80 = .ok (.ireturn, 1) := by decide +kernel
theorem dX11_why_81 : decode cX11_why 81 = .ok (.aload_n 0, 1) := by decide +kernel
theorem dX11_why_82 : decode cX11_why 82 = .ok (.aload_n 0, 1) := by decide +kernel
theorem dX11_why_83 : decode cX11_why 83 = .ok (.getfield 25, 3) := by decide +kernel
theorem dX11_why_86 : decode cX11_why 86 = .ok (.iload_n 1, 1) := by decide +kernel
theorem dX11_why_87 : decode cX11_why 87 = .ok (.invokevirtual 267, 3) := by decide +kernel
theorem dX11_why_90 : decode cX11_why 90 = .ok (.ifCond .eq 5, 3) := by decide +kernel
theorem dX11_why_93 : decode cX11_why 93 = .ok (.iconst 5, 1) := by decide +kernel
theorem dX11_why_94 : decode cX11_why 94 = .ok (.ireturn, 1) := by decide +kernel
theorem dX11_why_95 : decode cX11_why 95 = .ok (.aload_n 0, 1) := by decide +kernel
theorem dX11_why_96 : decode cX11_why 96 = .ok (.aload_n 0, 1) := by decide +kernel
theorem dX11_why_97 : decode cX11_why 97 = .ok (.getfield 25, 3) := by decide +kernel
theorem dX11_why_100 : decode cX11_why 100 = .ok (.iload_n 1, 1) := by decide +kernel
theorem dX11_why_101 : decode cX11_why 101 = .ok (.invokevirtual 235, 3) := by decide +kernel
theorem dX11_why_104 : decode cX11_why 104 = .ok (.aload_n 0, 1) := by decide +kernel
theorem dX11_why_105 : decode cX11_why 105 = .ok (.getfield 25, 3) := by decide +kernel
theorem dX11_why_108 : decode cX11_why 108 = .ok (.bipush 6, 2) := by decide +kernel
theorem dX11_why_110 : decode cX11_why 110 = .ok (.iaload, 1) := by decide +kernel
theorem dX11_why_111 : decode cX11_why 111 = .ok (.if_icmp .le 6, 3) := by decide +kernel
theorem dX11_why_114 : decode cX11_why 114 = .ok (.bipush 6, 2) := by decide +kernel
theorem dX11_why_116 : decode cX11_why 116 = .ok (.ireturn, 1) := by decide +kernel
theorem dX11_why_117 : decode cX11_why 117 = .ok (.aload_n 0, 1) := by decide +kernel
theorem dX11_why_118 : decode cX11_why 118 = .ok (.aload_n 0, 1) := by decide +kernel
theorem dX11_why_119 : decode cX11_why 119 = .ok (.getfield 25, 3) := by decide +kernel
theorem dX11_why_122 : decode cX11_why 122 = .ok (.iconst 0, 1) := by decide +kernel
theorem dX11_why_123 : decode cX11_why 123 = .ok (.invokevirtual 292, 3) := by decide +kernel
theorem dX11_why_126 : decode cX11_why 126 = .ok (.iload_n 1, 1) := by decide +kernel
theorem dX11_why_127 : decode cX11_why 127 = .ok (.ishr, 1) := by decide +kernel
theorem dX11_why_128 : decode cX11_why 128 = .ok (.iconst 1, 1) := by decide +kernel
theorem dX11_why_129 : decode cX11_why 129 = .ok (.iand, 1) := by decide +kernel
theorem dX11_why_130 : decode cX11_why 130 = .ok (.iconst 1, 1) := by decide +kernel
theorem dX11_why_131 : decode cX11_why 131 = .ok (.if_icmp .ne 7, 3) := by decide +kernel
theorem dX11_why_134 : decode cX11_why 134 = .ok (.iconst 0, 1) := by decide +kernel
theorem dX11_why_135 : decode cX11_why 135 = .ok (.goto 5, 3) := by decide +kernel
theorem dX11_why_138 : decode cX11_why 138 = .ok (.bipush 7, 2) := by decide +kernel
theorem dX11_why_140 : decode cX11_why 140 = .ok (.ireturn, 1) := by decide +kernel
theorem dX11_laysThen_0 : decode cX11_laysThen 0 = .ok (.iconst 0, 1) := by decide +kernel
theorem dX11_laysThen_1 : decode cX11_laysThen 1 = .ok (.istore_n 1, 1) := by decide +kernel
theorem dX11_laysThen_2 : decode cX11_laysThen 2 = .ok (.iload_n 1, 1) := by decide +kernel
theorem dX11_laysThen_3 : decode cX11_laysThen 3 = .ok (.sipush 411, 3) := by decide +kernel
theorem dX11_laysThen_6 : decode cX11_laysThen 6 = .ok (.if_icmp .ge 21, 3) := by decide +kernel
theorem dX11_laysThen_9 : decode cX11_laysThen 9 = .ok (.aload_n 0, 1) := by decide +kernel
theorem dX11_laysThen_10 : decode cX11_laysThen 10 = .ok (.getfield 28, 3) := by decide +kernel
theorem dX11_laysThen_13 : decode cX11_laysThen 13 = .ok (.iload_n 1, 1) := by decide +kernel
theorem dX11_laysThen_14 : decode cX11_laysThen 14 = .ok (.aload_n 0, 1) := by decide +kernel
theorem dX11_laysThen_15 : decode cX11_laysThen 15 = .ok (.getfield 25, 3) := by decide +kernel
theorem dX11_laysThen_18 : decode cX11_laysThen 18 = .ok (.iload_n 1, 1) := by decide +kernel
theorem dX11_laysThen_19 : decode cX11_laysThen 19 = .ok (.iaload, 1) := by decide +kernel
theorem dX11_laysThen_20 : decode cX11_laysThen 20 = .ok (.iastore, 1) := by decide +kernel
theorem dX11_laysThen_21 : decode cX11_laysThen 21 = .ok (.iinc 1 1, 3) := by decide +kernel
theorem dX11_laysThen_24 : decode cX11_laysThen 24 = .ok (.goto (-22), 3) := by decide +kernel
theorem dX11_laysThen_27 : decode cX11_laysThen 27 = .ok (.return_, 1) := by decide +kernel
theorem dX11_until_0 : decode cX11_until 0 = .ok (.iconst 0, 1) := by decide +kernel
theorem dX11_until_1 : decode cX11_until 1 = .ok (.istore_n 2, 1) := by decide +kernel
theorem dX11_until_2 : decode cX11_until 2 = .ok (.iload_n 2, 1) := by decide +kernel
theorem dX11_until_3 : decode cX11_until 3 = .ok (.sipush 500, 3) := by decide +kernel
theorem dX11_until_6 : decode cX11_until 6 = .ok (.if_icmp .gt 35, 3) := by decide +kernel
theorem dX11_until_9 : decode cX11_until 9 = .ok (.iload_n 1, 1) := by decide +kernel
theorem dX11_until_10 : decode cX11_until 10 = .ok (.aload_n 0, 1) := by decide +kernel
theorem dX11_until_11 : decode cX11_until 11 = .ok (.aload_n 0, 1) := by decide +kernel
theorem dX11_until_12 : decode cX11_until 12 = .ok (.getfield 28, 3) := by decide +kernel
theorem dX11_until_15 : decode cX11_until 15 = .ok (.iconst 2, 1) := by decide +kernel
theorem dX11_until_16 : decode cX11_until 16 = .ok (.iconst 3, 1) := by decide +kernel
theorem dX11_until_17 : decode cX11_until 17 = .ok (.invokevirtual 249, 3) := by decide +kernel
theorem dX11_until_20 : decode cX11_until 20 = .ok (.iconst (-1), 1) := by decide +kernel
theorem dX11_until_21 : decode cX11_until 21 = .ok (.ixor, 1) := by decide +kernel
theorem dX11_until_22 : decode cX11_until 22 = .ok (.iand, 1) := by decide +kernel
theorem dX11_until_23 : decode cX11_until 23 = .ok (.ifCond .eq 18, 3) := by decide +kernel
theorem dX11_until_26 : decode cX11_until 26 = .ok (.aload_n 0, 1) := by decide +kernel
theorem dX11_until_27 : decode cX11_until 27 = .ok (.aload_n 0, 1) := by decide +kernel
theorem dX11_until_28 : decode cX11_until 28 = .ok (.getfield 28, 3) := by decide +kernel
theorem dX11_until_31 : decode cX11_until 31 = .ok (.invokevirtual 312, 3) := by decide +kernel
theorem dX11_until_34 : decode cX11_until 34 = .ok (.istore_n 3, 1) := by decide +kernel
theorem dX11_until_35 : decode cX11_until 35 = .ok (.iinc 2 1, 3) := by decide +kernel
theorem dX11_until_38 : decode cX11_until 38 = .ok (.goto (-36), 3) := by decide +kernel
theorem dX11_until_41 : decode cX11_until 41 = .ok (.iload_n 2, 1) := by decide +kernel
theorem dX11_until_42 : decode cX11_until 42 = .ok (.sipush 500, 3) := by decide +kernel
theorem dX11_until_45 : decode cX11_until 45 = .ok (.if_icmp .le 7, 3) := by decide +kernel
theorem dX11_until_48 : decode cX11_until 48 = .ok (.iconst (-1), 1) := by decide +kernel
theorem dX11_until_49 : decode cX11_until 49 = .ok (.goto 4, 3) := by decide +kernel
theorem dX11_until_52 : decode cX11_until 52 = .ok (.iload_n 2, 1) := by decide +kernel
theorem dX11_until_53 : decode cX11_until 53 = .ok (.ireturn, 1) := by decide +kernel
theorem dX11_runsIn_0 : decode cX11_runsIn 0 = .ok (.aload_n 0, 1) := by decide +kernel
theorem dX11_runsIn_1 : decode cX11_runsIn 1 = .ok (.iconst 0, 1) := by decide +kernel
theorem dX11_runsIn_2 : decode cX11_runsIn 2 = .ok (.putfield 72, 3) := by decide +kernel
theorem dX11_runsIn_5 : decode cX11_runsIn 5 = .ok (.aload_n 0, 1) := by decide +kernel
theorem dX11_runsIn_6 : decode cX11_runsIn 6 = .ok (.aload_n 0, 1) := by decide +kernel
theorem dX11_runsIn_7 : decode cX11_runsIn 7 = .ok (.iload_n 1, 1) := by decide +kernel
theorem dX11_runsIn_8 : decode cX11_runsIn 8 = .ok (.invokevirtual 301, 3) := by decide +kernel
theorem dX11_runsIn_11 : decode cX11_runsIn 11 = .ok (.iconst 1, 1) := by decide +kernel
theorem dX11_runsIn_12 : decode cX11_runsIn 12 = .ok (.invokevirtual 78, 3) := by decide +kernel
theorem dX11_runsIn_15 : decode cX11_runsIn 15 = .ok (.ifCond .ne 5, 3) := by decide +kernel
theorem dX11_runsIn_18 : decode cX11_runsIn 18 = .ok (.iconst 0, 1) := by decide +kernel
theorem dX11_runsIn_19 : decode cX11_runsIn 19 = .ok (.ireturn, 1) := by decide +kernel
theorem dX11_runsIn_20 : decode cX11_runsIn 20 = .ok (.aload_n 0, 1) := by decide +kernel
theorem dX11_runsIn_21 : decode cX11_runsIn 21 = .ok (.invokevirtual 315, 3) := by decide +kernel
theorem dX11_runsIn_24 : decode cX11_runsIn 24 = .ok (.aload_n 0, 1) := by decide +kernel
theorem dX11_runsIn_25 : decode cX11_runsIn 25 = .ok (.iconst 1, 1) := by decide +kernel
theorem dX11_runsIn_26 : decode cX11_runsIn 26 = .ok (.iload_n 1, 1) := by decide +kernel
theorem dX11_runsIn_27 : decode cX11_runsIn 27 = .ok (.ishl, 1) := by decide +kernel
theorem dX11_runsIn_28 : decode cX11_runsIn 28 = .ok (.invokevirtual 318, 3) := by decide +kernel
theorem dX11_runsIn_31 : decode cX11_runsIn 31 = .ok (.istore_n 2, 1) := by decide +kernel
theorem dX11_runsIn_32 : decode cX11_runsIn 32 = .ok (.aload_n 0, 1) := by decide +kernel
theorem dX11_runsIn_33 : decode cX11_runsIn 33 = .ok (.iload_n 2, 1) := by decide +kernel
theorem dX11_runsIn_34 : decode cX11_runsIn 34 = .ok (.iconst (-1), 1) := by decide +kernel
theorem dX11_runsIn_35 : decode cX11_runsIn 35 = .ok (.if_icmp .eq 7, 3) := by decide +kernel
theorem dX11_runsIn_38 : decode cX11_runsIn 38 = .ok (.iconst 1, 1) := by decide +kernel
theorem dX11_runsIn_39 : decode cX11_runsIn 39 = .ok (.goto 4, 3) := by decide +kernel
theorem dX11_runsIn_42 : decode cX11_runsIn 42 = .ok (.iconst 0, 1) := by decide +kernel
theorem dX11_runsIn_43 : decode cX11_runsIn 43 = .ok (.iconst 2, 1) := by decide +kernel
theorem dX11_runsIn_44 : decode cX11_runsIn 44 = .ok (.invokevirtual 78, 3) := by decide +kernel
theorem dX11_runsIn_47 : decode cX11_runsIn 47 = .ok (.ifCond .eq 7, 3) := by decide +kernel
theorem dX11_runsIn_50 : decode cX11_runsIn 50 = .ok (.iload_n 2, 1) := by decide +kernel
theorem dX11_runsIn_51 : decode cX11_runsIn 51 = .ok (.goto 4, 3) := by decide +kernel
theorem dX11_runsIn_54 : decode cX11_runsIn 54 = .ok (.iconst 0, 1) := by decide +kernel
theorem dX11_runsIn_55 : decode cX11_runsIn 55 = .ok (.ireturn, 1) := by decide +kernel
theorem dX11_forgets_0 : decode cX11_forgets 0 = .ok (.iconst 0, 1) := by decide +kernel
theorem dX11_forgets_1 : decode cX11_forgets 1 = .ok (.istore_n 1, 1) := by decide +kernel
theorem dX11_forgets_2 : decode cX11_forgets 2 = .ok (.iconst 0, 1) := by decide +kernel
theorem dX11_forgets_3 : decode cX11_forgets 3 = .ok (.istore_n 2, 1) := by decide +kernel
theorem dX11_forgets_4 : decode cX11_forgets 4 = .ok (.iload_n 2, 1) := by decide +kernel
theorem dX11_forgets_5 : decode cX11_forgets 5 = .ok (.bipush 12, 2) := by decide +kernel
theorem dX11_forgets_7 : decode cX11_forgets 7 = .ok (.if_icmp .ge 29, 3) := by decide +kernel
theorem dX11_forgets_10 : decode cX11_forgets 10 = .ok (.iload_n 1, 1) := by decide +kernel
theorem dX11_forgets_11 : decode cX11_forgets 11 = .ok (.aload_n 0, 1) := by decide +kernel
theorem dX11_forgets_12 : decode cX11_forgets 12 = .ok (.iload_n 2, 1) := by decide +kernel
theorem dX11_forgets_13 : decode cX11_forgets 13 = .ok (.bipush 11, 2) := by decide +kernel
theorem dX11_forgets_15 : decode cX11_forgets 15 = .ok (.invokestatic 157, 3) := by decide +kernel
theorem dX11_forgets_18 : decode cX11_forgets 18 = .ok (.iaload, 1) := by decide +kernel
theorem dX11_forgets_19 : decode cX11_forgets 19 = .ok (.iadd, 1) := by decide +kernel
theorem dX11_forgets_20 : decode cX11_forgets 20 = .ok (.istore_n 1, 1) := by decide +kernel
theorem dX11_forgets_21 : decode cX11_forgets 21 = .ok (.aload_n 0, 1) := by decide +kernel
theorem dX11_forgets_22 : decode cX11_forgets 22 = .ok (.iload_n 2, 1) := by decide +kernel
theorem dX11_forgets_23 : decode cX11_forgets 23 = .ok (.bipush 11, 2) := by decide +kernel
theorem dX11_forgets_25 : decode cX11_forgets 25 = .ok (.invokestatic 157, 3) := by decide +kernel
theorem dX11_forgets_28 : decode cX11_forgets 28 = .ok (.iconst 0, 1) := by decide +kernel
theorem dX11_forgets_29 : decode cX11_forgets 29 = .ok (.iastore, 1) := by decide +kernel
theorem dX11_forgets_30 : decode cX11_forgets 30 = .ok (.iinc 2 1, 3) := by decide +kernel
theorem dX11_forgets_33 : decode cX11_forgets 33 = .ok (.goto (-29), 3) := by decide +kernel
theorem dX11_forgets_36 : decode cX11_forgets 36 = .ok (.aload_n 0, 1) := by decide +kernel
theorem dX11_forgets_37 : decode cX11_forgets 37 = .ok (.bipush 13, 2) := by decide +kernel
theorem dX11_forgets_39 : decode cX11_forgets 39 = .ok (.iconst 0, 1) := by decide +kernel
theorem dX11_forgets_40 : decode cX11_forgets 40 = .ok (.iastore, 1) := by decide +kernel
theorem dX11_forgets_41 : decode cX11_forgets 41 = .ok (.iload_n 1, 1) := by decide +kernel
theorem dX11_forgets_42 : decode cX11_forgets 42 = .ok (.ireturn, 1) := by decide +kernel
theorem dX11_allIn_0 : decode cX11_allIn 0 = .ok (.aload_n 0, 1) := by decide +kernel
theorem dX11_allIn_1 : decode cX11_allIn 1 = .ok (.iconst 0, 1) := by decide +kernel
theorem dX11_allIn_2 : decode cX11_allIn 2 = .ok (.putfield 72, 3) := by decide +kernel
theorem dX11_allIn_5 : decode cX11_allIn 5 = .ok (.aload_n 0, 1) := by decide +kernel
theorem dX11_allIn_6 : decode cX11_allIn 6 = .ok (.iload_n 1, 1) := by decide +kernel
theorem dX11_allIn_7 : decode cX11_allIn 7 = .ok (.i2l, 1) := by decide +kernel
theorem dX11_allIn_8 : decode cX11_allIn 8 = .ok (.lconst 0, 1) := by decide +kernel
theorem dX11_allIn_9 : decode cX11_allIn 9 = .ok (.ldc2_w 308, 3) := by decide +kernel
theorem dX11_allIn_12 : decode cX11_allIn 12 = .ok (.invokestatic 82, 3) := by decide +kernel
theorem dX11_allIn_15 : decode cX11_allIn 15 = .ok (.iconst 1, 1) := by decide +kernel
theorem dX11_allIn_16 : decode cX11_allIn 16 = .ok (.invokevirtual 78, 3) := by decide +kernel
theorem dX11_allIn_19 : decode cX11_allIn 19 = .ok (.ifCond .ne 5, 3) := by decide +kernel
theorem dX11_allIn_22 : decode cX11_allIn 22 = .ok (.iconst 0, 1) := by decide +kernel
theorem dX11_allIn_23 : decode cX11_allIn 23 = .ok (.ireturn, 1) := by decide +kernel
theorem dX11_allIn_24 : decode cX11_allIn 24 = .ok (.aload_n 0, 1) := by decide +kernel
theorem dX11_allIn_25 : decode cX11_allIn 25 = .ok (.invokevirtual 315, 3) := by decide +kernel
theorem dX11_allIn_28 : decode cX11_allIn 28 = .ok (.iload_n 1, 1) := by decide +kernel
theorem dX11_allIn_29 : decode cX11_allIn 29 = .ok (.iconst 1, 1) := by decide +kernel
theorem dX11_allIn_30 : decode cX11_allIn 30 = .ok (.if_icmp .ne 11, 3) := by decide +kernel
theorem dX11_allIn_33 : decode cX11_allIn 33 = .ok (.aload_n 0, 1) := by decide +kernel
theorem dX11_allIn_34 : decode cX11_allIn 34 = .ok (.getfield 28, 3) := by decide +kernel
theorem dX11_allIn_37 : decode cX11_allIn 37 = .ok (.bipush 14, 2) := by decide +kernel
theorem dX11_allIn_39 : decode cX11_allIn 39 = .ok (.iconst 1, 1) := by decide +kernel
theorem dX11_allIn_40 : decode cX11_allIn 40 = .ok (.iastore, 1) := by decide +kernel
theorem dX11_allIn_41 : decode cX11_allIn 41 = .ok (.iload_n 1, 1) := by decide +kernel
theorem dX11_allIn_42 : decode cX11_allIn 42 = .ok (.iconst 2, 1) := by decide +kernel
theorem dX11_allIn_43 : decode cX11_allIn 43 = .ok (.if_icmp .ne 19, 3) := by decide +kernel
theorem dX11_allIn_46 : decode cX11_allIn 46 = .ok (.aload_n 0, 1) := by decide +kernel
theorem dX11_allIn_47 : decode cX11_allIn 47 = .ok (.getfield 28, 3) := by decide +kernel
theorem dX11_allIn_50 : decode cX11_allIn 50 = .ok (.bipush 9, 2) := by decide +kernel
theorem dX11_allIn_52 : decode cX11_allIn 52 = .ok (.iconst 1, 1) := by decide +kernel
theorem dX11_allIn_53 : decode cX11_allIn 53 = .ok (.aload_n 0, 1) := by decide +kernel
theorem dX11_allIn_54 : decode cX11_allIn 54 = .ok (.getfield 28, 3) := by decide +kernel
theorem dX11_allIn_57 : decode cX11_allIn 57 = .ok (.bipush 9, 2) := by decide +kernel
theorem dX11_allIn_59 : decode cX11_allIn 59 = .ok (.iaload, 1) := by decide +kernel
theorem dX11_allIn_60 : decode cX11_allIn 60 = .ok (.isub, 1) := by decide +kernel
theorem dX11_allIn_61 : decode cX11_allIn 61 = .ok (.iastore, 1) := by decide +kernel
theorem dX11_allIn_62 : decode cX11_allIn 62 = .ok (.iload_n 1, 1) := by decide +kernel
theorem dX11_allIn_63 : decode cX11_allIn 63 = .ok (.iconst 3, 1) := by decide +kernel
theorem dX11_allIn_64 : decode cX11_allIn 64 = .ok (.if_icmp .ne 13, 3) := by decide +kernel
theorem dX11_allIn_67 : decode cX11_allIn 67 = .ok (.aload_n 0, 1) := by decide +kernel
theorem dX11_allIn_68 : decode cX11_allIn 68 = .ok (.getfield 28, 3) := by decide +kernel
theorem dX11_allIn_71 : decode cX11_allIn 71 = .ok (.invokestatic 321, 3) := by decide +kernel
theorem dX11_allIn_74 : decode cX11_allIn 74 = .ok (.goto 4, 3) := by decide +kernel
theorem dX11_allIn_77 : decode cX11_allIn 77 = .ok (.iconst 0, 1) := by decide +kernel
theorem dX11_allIn_78 : decode cX11_allIn 78 = .ok (.istore_n 2, 1) := by decide +kernel
theorem dX11_allIn_79 : decode cX11_allIn 79 = .ok (.aload_n 0, 1) := by decide +kernel
theorem dX11_allIn_80 : decode cX11_allIn 80 = .ok (.aload_n 0, 1) := by decide +kernel
theorem dX11_allIn_81 : decode cX11_allIn 81 = .ok (.aload_n 0, 1) := by decide +kernel
theorem dX11_allIn_82 : decode cX11_allIn 82 = .ok (.getfield 28, 3) := by decide +kernel
theorem dX11_allIn_85 : decode cX11_allIn 85 = .ok (.invokevirtual 245, 3) := by decide +kernel
theorem dX11_allIn_88 : decode cX11_allIn 88 = .ok (.invokevirtual 318, 3) := by decide +kernel
theorem dX11_allIn_91 : decode cX11_allIn 91 = .ok (.istore_n 3, 1) := by decide +kernel
theorem dX11_allIn_92 : decode cX11_allIn 92 = .ok (.aload_n 0, 1) := by decide +kernel
theorem dX11_allIn_93 : decode cX11_allIn 93 = .ok (.iload_n 3, 1) := by decide +kernel
theorem dX11_allIn_94 : decode cX11_allIn 94 = .ok (.iconst (-1), 1) := by decide +kernel
theorem dX11_allIn_95 : decode cX11_allIn 95 = .ok (.if_icmp .eq 7, 3) := by decide +kernel
theorem dX11_allIn_98 : decode cX11_allIn 98 = .ok (.iconst 1, 1) := by decide +kernel
theorem dX11_allIn_99 : decode cX11_allIn 99 = .ok (.goto 4, 3) := by decide +kernel
theorem dX11_allIn_102 : decode cX11_allIn 102 = .ok (.iconst 0, 1) := by decide +kernel
theorem dX11_allIn_103 : decode cX11_allIn 103 = .ok (.iconst 2, 1) := by decide +kernel
theorem dX11_allIn_104 : decode cX11_allIn 104 = .ok (.invokevirtual 78, 3) := by decide +kernel
theorem dX11_allIn_107 : decode cX11_allIn 107 = .ok (.ifCond .eq 7, 3) := by decide +kernel
theorem dX11_allIn_110 : decode cX11_allIn 110 = .ok (.iload_n 3, 1) := by decide +kernel
theorem dX11_allIn_111 : decode cX11_allIn 111 = .ok (.goto 4, 3) := by decide +kernel
theorem dX11_allIn_114 : decode cX11_allIn 114 = .ok (.iconst 0, 1) := by decide +kernel
theorem dX11_allIn_115 : decode cX11_allIn 115 = .ok (.ireturn, 1) := by decide +kernel
theorem dX11_areTicks_0 : decode cX11_areTicks 0 = .ok (.iload_n 0, 1) := by decide +kernel
theorem dX11_areTicks_1 : decode cX11_areTicks 1 = .ok (.i2l, 1) := by decide +kernel
theorem dX11_areTicks_2 : decode cX11_areTicks 2 = .ok (.lconst 1, 1) := by decide +kernel
theorem dX11_areTicks_3 : decode cX11_areTicks 3 = .ok (.ldc2_w 324, 3) := by decide +kernel
theorem dX11_areTicks_6 : decode cX11_areTicks 6 = .ok (.invokestatic 82, 3) := by decide +kernel
theorem dX11_areTicks_9 : decode cX11_areTicks 9 = .ok (.ireturn, 1) := by decide +kernel
theorem dX11_peakIn_0 : decode cX11_peakIn 0 = .ok (.aload_n 0, 1) := by decide +kernel
theorem dX11_peakIn_1 : decode cX11_peakIn 1 = .ok (.iconst 0, 1) := by decide +kernel
theorem dX11_peakIn_2 : decode cX11_peakIn 2 = .ok (.putfield 72, 3) := by decide +kernel
theorem dX11_peakIn_5 : decode cX11_peakIn 5 = .ok (.aload_n 0, 1) := by decide +kernel
theorem dX11_peakIn_6 : decode cX11_peakIn 6 = .ok (.iload_n 1, 1) := by decide +kernel
theorem dX11_peakIn_7 : decode cX11_peakIn 7 = .ok (.invokestatic 326, 3) := by decide +kernel
theorem dX11_peakIn_10 : decode cX11_peakIn 10 = .ok (.ifCond .eq 19, 3) := by decide +kernel
theorem dX11_peakIn_13 : decode cX11_peakIn 13 = .ok (.iload_n 2, 1) := by decide +kernel
theorem dX11_peakIn_14 : decode cX11_peakIn 14 = .ok (.i2l, 1) := by decide +kernel
theorem dX11_peakIn_15 : decode cX11_peakIn 15 = .ok (.lconst 1, 1) := by decide +kernel
theorem dX11_peakIn_16 : decode cX11_peakIn 16 = .ok (.ldc2_w 329, 3) := by decide +kernel
theorem dX11_peakIn_19 : decode cX11_peakIn 19 = .ok (.invokestatic 82, 3) := by decide +kernel
theorem dX11_peakIn_22 : decode cX11_peakIn 22 = .ok (.ifCond .eq 7, 3) := by decide +kernel
theorem dX11_peakIn_25 : decode cX11_peakIn 25 = .ok (.iconst 1, 1) := by decide +kernel
theorem dX11_peakIn_26 : decode cX11_peakIn 26 = .ok (.goto 4, 3) := by decide +kernel
theorem dX11_peakIn_29 : decode cX11_peakIn 29 = .ok (.iconst 0, 1) := by decide +kernel
theorem dX11_peakIn_30 : decode cX11_peakIn 30 = .ok (.iconst 1, 1) := by decide +kernel
theorem dX11_peakIn_31 : decode cX11_peakIn 31 = .ok (.invokevirtual 78, 3) := by decide +kernel
theorem dX11_peakIn_34 : decode cX11_peakIn 34 = .ok (.ifCond .ne 5, 3) := by decide +kernel
theorem dX11_peakIn_37 : decode cX11_peakIn 37 = .ok (.iconst 0, 1) := by decide +kernel
theorem dX11_peakIn_38 : decode cX11_peakIn 38 = .ok (.ireturn, 1) := by decide +kernel
theorem dX11_peakIn_39 : decode cX11_peakIn 39 = .ok (.aload_n 0, 1) := by decide +kernel
theorem dX11_peakIn_40 : decode cX11_peakIn 40 = .ok (.invokevirtual 315, 3) := by decide +kernel
theorem dX11_peakIn_43 : decode cX11_peakIn 43 = .ok (.aload_n 0, 1) := by decide +kernel
theorem dX11_peakIn_44 : decode cX11_peakIn 44 = .ok (.getfield 28, 3) := by decide +kernel
theorem dX11_peakIn_47 : decode cX11_peakIn 47 = .ok (.bipush 6, 2) := by decide +kernel
theorem dX11_peakIn_49 : decode cX11_peakIn 49 = .ok (.iload_n 2, 1) := by decide +kernel
theorem dX11_peakIn_50 : decode cX11_peakIn 50 = .ok (.iastore, 1) := by decide +kernel
theorem dX11_peakIn_51 : decode cX11_peakIn 51 = .ok (.iconst 0, 1) := by decide +kernel
theorem dX11_peakIn_52 : decode cX11_peakIn 52 = .ok (.istore_n 3, 1) := by decide +kernel
theorem dX11_peakIn_53 : decode cX11_peakIn 53 = .ok (.iconst 0, 1) := by decide +kernel
theorem dX11_peakIn_54 : decode cX11_peakIn 54 = .ok (.istore 4, 2) := by decide +kernel
theorem dX11_peakIn_56 : decode cX11_peakIn 56 = .ok (.iload 4, 2) := by decide +kernel
theorem dX11_peakIn_58 : decode cX11_peakIn 58 = .ok (.iload_n 1, 1) := by decide +kernel
theorem dX11_peakIn_59 : decode cX11_peakIn 59 = .ok (.if_icmp .ge 32, 3) := by decide +kernel
theorem dX11_peakIn_62 : decode cX11_peakIn 62 = .ok (.aload_n 0, 1) := by decide +kernel
theorem dX11_peakIn_63 : decode cX11_peakIn 63 = .ok (.aload_n 0, 1) := by decide +kernel
theorem dX11_peakIn_64 : decode cX11_peakIn 64 = .ok (.getfield 28, 3) := by decide +kernel
theorem dX11_peakIn_67 : decode cX11_peakIn 67 = .ok (.invokevirtual 312, 3) := by decide +kernel
theorem dX11_peakIn_70 : decode cX11_peakIn 70 = .ok (.istore 5, 2) := by decide +kernel
theorem dX11_peakIn_72 : decode cX11_peakIn 72 = .ok (.iload 5, 2) := by decide +kernel
theorem dX11_peakIn_74 : decode cX11_peakIn 74 = .ok (.iload_n 3, 1) := by decide +kernel
theorem dX11_peakIn_75 : decode cX11_peakIn 75 = .ok (.if_icmp .le 8, 3) := by decide +kernel
theorem dX11_peakIn_78 : decode cX11_peakIn 78 = .ok (.iload 5, 2) := by decide +kernel
theorem dX11_peakIn_80 : decode cX11_peakIn 80 = .ok (.goto 4, 3) := by decide +kernel
theorem dX11_peakIn_83 : decode cX11_peakIn 83 = .ok (.iload_n 3, 1) := by decide +kernel
theorem dX11_peakIn_84 : decode cX11_peakIn 84 = .ok (.istore_n 3, 1) := by decide +kernel
theorem dX11_peakIn_85 : decode cX11_peakIn 85 = .ok (.iinc 4 1, 3) := by decide +kernel
theorem dX11_peakIn_88 : decode cX11_peakIn 88 = .ok (.goto (-32), 3) := by decide +kernel
theorem dX11_peakIn_91 : decode cX11_peakIn 91 = .ok (.iload_n 3, 1) := by decide +kernel
theorem dX11_peakIn_92 : decode cX11_peakIn 92 = .ok (.ireturn, 1) := by decide +kernel
theorem dX11_sentIn_0 : decode cX11_sentIn 0 = .ok (.aload_n 0, 1) := by decide +kernel
theorem dX11_sentIn_1 : decode cX11_sentIn 1 = .ok (.iconst 0, 1) := by decide +kernel
theorem dX11_sentIn_2 : decode cX11_sentIn 2 = .ok (.putfield 72, 3) := by decide +kernel
theorem dX11_sentIn_5 : decode cX11_sentIn 5 = .ok (.aload_n 0, 1) := by decide +kernel
theorem dX11_sentIn_6 : decode cX11_sentIn 6 = .ok (.iload_n 1, 1) := by decide +kernel
theorem dX11_sentIn_7 : decode cX11_sentIn 7 = .ok (.invokestatic 326, 3) := by decide +kernel
theorem dX11_sentIn_10 : decode cX11_sentIn 10 = .ok (.ifCond .eq 19, 3) := by decide +kernel
theorem dX11_sentIn_13 : decode cX11_sentIn 13 = .ok (.iload_n 2, 1) := by decide +kernel
theorem dX11_sentIn_14 : decode cX11_sentIn 14 = .ok (.i2l, 1) := by decide +kernel
theorem dX11_sentIn_15 : decode cX11_sentIn 15 = .ok (.lconst 1, 1) := by decide +kernel
theorem dX11_sentIn_16 : decode cX11_sentIn 16 = .ok (.ldc2_w 331, 3) := by decide +kernel
theorem dX11_sentIn_19 : decode cX11_sentIn 19 = .ok (.invokestatic 82, 3) := by decide +kernel
theorem dX11_sentIn_22 : decode cX11_sentIn 22 = .ok (.ifCond .eq 7, 3) := by decide +kernel
theorem dX11_sentIn_25 : decode cX11_sentIn 25 = .ok (.iconst 1, 1) := by decide +kernel
theorem dX11_sentIn_26 : decode cX11_sentIn 26 = .ok (.goto 4, 3) := by decide +kernel
theorem dX11_sentIn_29 : decode cX11_sentIn 29 = .ok (.iconst 0, 1) := by decide +kernel
theorem dX11_sentIn_30 : decode cX11_sentIn 30 = .ok (.iconst 1, 1) := by decide +kernel
theorem dX11_sentIn_31 : decode cX11_sentIn 31 = .ok (.invokevirtual 78, 3) := by decide +kernel
theorem dX11_sentIn_34 : decode cX11_sentIn 34 = .ok (.ifCond .ne 5, 3) := by decide +kernel
theorem dX11_sentIn_37 : decode cX11_sentIn 37 = .ok (.iconst 0, 1) := by decide +kernel
theorem dX11_sentIn_38 : decode cX11_sentIn 38 = .ok (.ireturn, 1) := by decide +kernel
theorem dX11_sentIn_39 : decode cX11_sentIn 39 = .ok (.aload_n 0, 1) := by decide +kernel
theorem dX11_sentIn_40 : decode cX11_sentIn 40 = .ok (.invokevirtual 315, 3) := by decide +kernel
theorem dX11_sentIn_43 : decode cX11_sentIn 43 = .ok (.aload_n 0, 1) := by decide +kernel
theorem dX11_sentIn_44 : decode cX11_sentIn 44 = .ok (.getfield 28, 3) := by decide +kernel
theorem dX11_sentIn_47 : decode cX11_sentIn 47 = .ok (.bipush 7, 2) := by decide +kernel
theorem dX11_sentIn_49 : decode cX11_sentIn 49 = .ok (.iload_n 2, 1) := by decide +kernel
theorem dX11_sentIn_50 : decode cX11_sentIn 50 = .ok (.iastore, 1) := by decide +kernel
theorem dX11_sentIn_51 : decode cX11_sentIn 51 = .ok (.iconst 0, 1) := by decide +kernel
theorem dX11_sentIn_52 : decode cX11_sentIn 52 = .ok (.istore_n 3, 1) := by decide +kernel
theorem dX11_sentIn_53 : decode cX11_sentIn 53 = .ok (.iload_n 3, 1) := by decide +kernel
theorem dX11_sentIn_54 : decode cX11_sentIn 54 = .ok (.iload_n 1, 1) := by decide +kernel
theorem dX11_sentIn_55 : decode cX11_sentIn 55 = .ok (.if_icmp .ge 19, 3) := by decide +kernel
theorem dX11_sentIn_58 : decode cX11_sentIn 58 = .ok (.aload_n 0, 1) := by decide +kernel
theorem dX11_sentIn_59 : decode cX11_sentIn 59 = .ok (.aload_n 0, 1) := by decide +kernel
theorem dX11_sentIn_60 : decode cX11_sentIn 60 = .ok (.getfield 28, 3) := by decide +kernel
theorem dX11_sentIn_63 : decode cX11_sentIn 63 = .ok (.invokevirtual 312, 3) := by decide +kernel
theorem dX11_sentIn_66 : decode cX11_sentIn 66 = .ok (.istore 4, 2) := by decide +kernel
theorem dX11_sentIn_68 : decode cX11_sentIn 68 = .ok (.iinc 3 1, 3) := by decide +kernel
theorem dX11_sentIn_71 : decode cX11_sentIn 71 = .ok (.goto (-18), 3) := by decide +kernel
theorem dX11_sentIn_74 : decode cX11_sentIn 74 = .ok (.aload_n 0, 1) := by decide +kernel
theorem dX11_sentIn_75 : decode cX11_sentIn 75 = .ok (.getfield 28, 3) := by decide +kernel
theorem dX11_sentIn_78 : decode cX11_sentIn 78 = .ok (.iconst 4, 1) := by decide +kernel
theorem dX11_sentIn_79 : decode cX11_sentIn 79 = .ok (.iaload, 1) := by decide +kernel
theorem dX11_sentIn_80 : decode cX11_sentIn 80 = .ok (.aload_n 0, 1) := by decide +kernel
theorem dX11_sentIn_81 : decode cX11_sentIn 81 = .ok (.getfield 25, 3) := by decide +kernel
theorem dX11_sentIn_84 : decode cX11_sentIn 84 = .ok (.iconst 4, 1) := by decide +kernel
theorem dX11_sentIn_85 : decode cX11_sentIn 85 = .ok (.iaload, 1) := by decide +kernel
theorem dX11_sentIn_86 : decode cX11_sentIn 86 = .ok (.isub, 1) := by decide +kernel
theorem dX11_sentIn_87 : decode cX11_sentIn 87 = .ok (.ireturn, 1) := by decide +kernel
theorem dX11_keeps_0 : decode cX11_keeps 0 = .ok (.aload_n 0, 1) := by decide +kernel
theorem dX11_keeps_1 : decode cX11_keeps 1 = .ok (.getfield 219, 3) := by decide +kernel
theorem dX11_keeps_4 : decode cX11_keeps 4 = .ok (.bipush 8, 2) := by decide +kernel
theorem dX11_keeps_6 : decode cX11_keeps 6 = .ok (.if_icmp .ne 49, 3) := by decide +kernel
theorem dX11_keeps_9 : decode cX11_keeps 9 = .ok (.aload_n 0, 1) := by decide +kernel
theorem dX11_keeps_10 : decode cX11_keeps 10 = .ok (.dup, 1) := by decide +kernel
theorem dX11_keeps_11 : decode cX11_keeps 11 = .ok (.getfield 219, 3) := by decide +kernel
theorem dX11_keeps_14 : decode cX11_keeps 14 = .ok (.iconst 1, 1) := by decide +kernel
theorem dX11_keeps_15 : decode cX11_keeps 15 = .ok (.isub, 1) := by decide +kernel
theorem dX11_keeps_16 : decode cX11_keeps 16 = .ok (.putfield 219, 3) := by decide +kernel
theorem dX11_keeps_19 : decode cX11_keeps 19 = .ok (.iconst 0, 1) := by decide +kernel
theorem dX11_keeps_20 : decode cX11_keeps 20 = .ok (.istore_n 1, 1) := by decide +kernel
theorem dX11_keeps_21 : decode cX11_keeps 21 = .ok (.iload_n 1, 1) := by decide +kernel
theorem dX11_keeps_22 : decode cX11_keeps 22 = .ok (.sipush 411, 3) := by decide +kernel
theorem dX11_keeps_25 : decode cX11_keeps 25 = .ok (.aload_n 0, 1) := by decide +kernel
theorem dX11_keeps_26 : decode cX11_keeps 26 = .ok (.getfield 219, 3) := by decide +kernel
theorem dX11_keeps_29 : decode cX11_keeps 29 = .ok (.imul, 1) := by decide +kernel
theorem dX11_keeps_30 : decode cX11_keeps 30 = .ok (.if_icmp .ge 25, 3) := by decide +kernel
theorem dX11_keeps_33 : decode cX11_keeps 33 = .ok (.aload_n 0, 1) := by decide +kernel
theorem dX11_keeps_34 : decode cX11_keeps 34 = .ok (.getfield 31, 3) := by decide +kernel
theorem dX11_keeps_37 : decode cX11_keeps 37 = .ok (.iload_n 1, 1) := by decide +kernel
theorem dX11_keeps_38 : decode cX11_keeps 38 = .ok (.aload_n 0, 1) := by decide +kernel
theorem dX11_keeps_39 : decode cX11_keeps 39 = .ok (.getfield 31, 3) := by decide +kernel
theorem dX11_keeps_42 : decode cX11_keeps 42 = .ok (.iload_n 1, 1) := by decide +kernel
theorem dX11_keeps_43 : decode cX11_keeps 43 = .ok (.sipush 411, 3) := by decide +kernel
theorem dX11_keeps_46 : decode cX11_keeps 46 = .ok (.iadd, 1) := by decide +kernel
theorem dX11_keeps_47 : decode cX11_keeps 47 = .ok (.iaload, 1) := by decide +kernel
theorem dX11_keeps_48 : decode cX11_keeps 48 = .ok (.iastore, 1) := by decide +kernel
theorem dX11_keeps_49 : decode cX11_keeps 49 = .ok (.iinc 1 1, 3) := by decide +kernel
theorem dX11_keeps_52 : decode cX11_keeps 52 = .ok (.goto (-31), 3) := by decide +kernel
theorem dX11_keeps_55 : decode cX11_keeps 55 = .ok (.iconst 0, 1) := by decide +kernel
theorem dX11_keeps_56 : decode cX11_keeps 56 = .ok (.istore_n 1, 1) := by decide +kernel
theorem dX11_keeps_57 : decode cX11_keeps 57 = .ok (.iload_n 1, 1) := by decide +kernel
theorem dX11_keeps_58 : decode cX11_keeps 58 = .ok (.sipush 411, 3) := by decide +kernel
theorem dX11_keeps_61 : decode cX11_keeps 61 = .ok (.if_icmp .ge 30, 3) := by decide +kernel
theorem dX11_keeps_64 : decode cX11_keeps 64 = .ok (.aload_n 0, 1) := by decide +kernel
theorem dX11_keeps_65 : decode cX11_keeps 65 = .ok (.getfield 31, 3) := by decide +kernel
theorem dX11_keeps_68 : decode cX11_keeps 68 = .ok (.sipush 411, 3) := by decide +kernel
theorem dX11_keeps_71 : decode cX11_keeps 71 = .ok (.aload_n 0, 1) := by decide +kernel
theorem dX11_keeps_72 : decode cX11_keeps 72 = .ok (.getfield 219, 3) := by decide +kernel
theorem dX11_keeps_75 : decode cX11_keeps 75 = .ok (.imul, 1) := by decide +kernel
theorem dX11_keeps_76 : decode cX11_keeps 76 = .ok (.iload_n 1, 1) := by decide +kernel
theorem dX11_keeps_77 : decode cX11_keeps 77 = .ok (.iadd, 1) := by decide +kernel
theorem dX11_keeps_78 : decode cX11_keeps 78 = .ok (.aload_n 0, 1) := by decide +kernel
theorem dX11_keeps_79 : decode cX11_keeps 79 = .ok (.getfield 25, 3) := by decide +kernel
theorem dX11_keeps_82 : decode cX11_keeps 82 = .ok (.iload_n 1, 1) := by decide +kernel
theorem dX11_keeps_83 : decode cX11_keeps 83 = .ok (.iaload, 1) := by decide +kernel
theorem dX11_keeps_84 : decode cX11_keeps 84 = .ok (.iastore, 1) := by decide +kernel
theorem dX11_keeps_85 : decode cX11_keeps 85 = .ok (.iinc 1 1, 3) := by decide +kernel
theorem dX11_keeps_88 : decode cX11_keeps 88 = .ok (.goto (-31), 3) := by decide +kernel
theorem dX11_keeps_91 : decode cX11_keeps 91 = .ok (.aload_n 0, 1) := by decide +kernel
theorem dX11_keeps_92 : decode cX11_keeps 92 = .ok (.dup, 1) := by decide +kernel
theorem dX11_keeps_93 : decode cX11_keeps 93 = .ok (.getfield 219, 3) := by decide +kernel
theorem dX11_keeps_96 : decode cX11_keeps 96 = .ok (.iconst 1, 1) := by decide +kernel
theorem dX11_keeps_97 : decode cX11_keeps 97 = .ok (.iadd, 1) := by decide +kernel
theorem dX11_keeps_98 : decode cX11_keeps 98 = .ok (.putfield 219, 3) := by decide +kernel
theorem dX11_keeps_101 : decode cX11_keeps 101 = .ok (.return_, 1) := by decide +kernel
theorem dX11_run_0 : decode cX11_run 0 = .ok (.aload_n 0, 1) := by decide +kernel
theorem dX11_run_1 : decode cX11_run 1 = .ok (.iconst 0, 1) := by decide +kernel
theorem dX11_run_2 : decode cX11_run 2 = .ok (.putfield 72, 3) := by decide +kernel
theorem dX11_run_5 : decode cX11_run 5 = .ok (.aload_n 0, 1) := by decide +kernel
theorem dX11_run_6 : decode cX11_run 6 = .ok (.iload_n 1, 1) := by decide +kernel
theorem dX11_run_7 : decode cX11_run 7 = .ok (.i2l, 1) := by decide +kernel
theorem dX11_run_8 : decode cX11_run 8 = .ok (.lconst 1, 1) := by decide +kernel
theorem dX11_run_9 : decode cX11_run 9 = .ok (.ldc2_w 333, 3) := by decide +kernel
theorem dX11_run_12 : decode cX11_run 12 = .ok (.invokestatic 82, 3) := by decide +kernel
theorem dX11_run_15 : decode cX11_run 15 = .ok (.iconst 1, 1) := by decide +kernel
theorem dX11_run_16 : decode cX11_run 16 = .ok (.invokevirtual 78, 3) := by decide +kernel
theorem dX11_run_19 : decode cX11_run 19 = .ok (.ifCond .eq 30, 3) := by decide +kernel
theorem dX11_run_22 : decode cX11_run 22 = .ok (.aload_n 0, 1) := by decide +kernel
theorem dX11_run_23 : decode cX11_run 23 = .ok (.aload_n 0, 1) := by decide +kernel
theorem dX11_run_24 : decode cX11_run 24 = .ok (.getfield 25, 3) := by decide +kernel
theorem dX11_run_27 : decode cX11_run 27 = .ok (.iconst 0, 1) := by decide +kernel
theorem dX11_run_28 : decode cX11_run 28 = .ok (.iaload, 1) := by decide +kernel
theorem dX11_run_29 : decode cX11_run 29 = .ok (.iload_n 1, 1) := by decide +kernel
theorem dX11_run_30 : decode cX11_run 30 = .ok (.iadd, 1) := by decide +kernel
theorem dX11_run_31 : decode cX11_run 31 = .ok (.sipush 5000, 3) := by decide +kernel
theorem dX11_run_34 : decode cX11_run 34 = .ok (.if_icmp .gt 7, 3) := by decide +kernel
theorem dX11_run_37 : decode cX11_run 37 = .ok (.iconst 1, 1) := by decide +kernel
theorem dX11_run_38 : decode cX11_run 38 = .ok (.goto 4, 3) := by decide +kernel
theorem dX11_run_41 : decode cX11_run 41 = .ok (.iconst 0, 1) := by decide +kernel
theorem dX11_run_42 : decode cX11_run 42 = .ok (.iconst 2, 1) := by decide +kernel
theorem dX11_run_43 : decode cX11_run 43 = .ok (.invokevirtual 78, 3) := by decide +kernel
theorem dX11_run_46 : decode cX11_run 46 = .ok (.ifCond .ne 5, 3) := by decide +kernel
theorem dX11_run_49 : decode cX11_run 49 = .ok (.iconst 0, 1) := by decide +kernel
theorem dX11_run_50 : decode cX11_run 50 = .ok (.ireturn, 1) := by decide +kernel
theorem dX11_run_51 : decode cX11_run 51 = .ok (.aload_n 0, 1) := by decide +kernel
theorem dX11_run_52 : decode cX11_run 52 = .ok (.invokevirtual 335, 3) := by decide +kernel
theorem dX11_run_55 : decode cX11_run 55 = .ok (.iconst 0, 1) := by decide +kernel
theorem dX11_run_56 : decode cX11_run 56 = .ok (.istore_n 2, 1) := by decide +kernel
theorem dX11_run_57 : decode cX11_run 57 = .ok (.iload_n 2, 1) := by decide +kernel
theorem dX11_run_58 : decode cX11_run 58 = .ok (.iload_n 1, 1) := by decide +kernel
theorem dX11_run_59 : decode cX11_run 59 = .ok (.if_icmp .ge 18, 3) := by decide +kernel
theorem dX11_run_62 : decode cX11_run 62 = .ok (.aload_n 0, 1) := by decide +kernel
theorem dX11_run_63 : decode cX11_run 63 = .ok (.aload_n 0, 1) := by decide +kernel
theorem dX11_run_64 : decode cX11_run 64 = .ok (.getfield 25, 3) := by decide +kernel
theorem dX11_run_67 : decode cX11_run 67 = .ok (.invokevirtual 312, 3) := by decide +kernel
theorem dX11_run_70 : decode cX11_run 70 = .ok (.istore_n 3, 1) := by decide +kernel
theorem dX11_run_71 : decode cX11_run 71 = .ok (.iinc 2 1, 3) := by decide +kernel
theorem dX11_run_74 : decode cX11_run 74 = .ok (.goto (-17), 3) := by decide +kernel
theorem dX11_run_77 : decode cX11_run 77 = .ok (.iconst 0, 1) := by decide +kernel
theorem dX11_run_78 : decode cX11_run 78 = .ok (.istore_n 2, 1) := by decide +kernel
theorem dX11_run_79 : decode cX11_run 79 = .ok (.iconst 0, 1) := by decide +kernel
theorem dX11_run_80 : decode cX11_run 80 = .ok (.istore_n 3, 1) := by decide +kernel
theorem dX11_run_81 : decode cX11_run 81 = .ok (.iload_n 3, 1) := by decide +kernel
theorem dX11_run_82 : decode cX11_run 82 = .ok (.aload_n 0, 1) := by decide +kernel
theorem dX11_run_83 : decode cX11_run 83 = .ok (.getfield 207, 3) := by decide +kernel
theorem dX11_run_86 : decode cX11_run 86 = .ok (.if_icmp .ge 31, 3) := by decide +kernel
theorem dX11_run_89 : decode cX11_run 89 = .ok (.iload_n 2, 1) := by decide +kernel
theorem dX11_run_90 : decode cX11_run 90 = .ok (.aload_n 0, 1) := by decide +kernel
theorem dX11_run_91 : decode cX11_run 91 = .ok (.getfield 25, 3) := by decide +kernel
theorem dX11_run_94 : decode cX11_run 94 = .ok (.iload_n 3, 1) := by decide +kernel
theorem dX11_run_95 : decode cX11_run 95 = .ok (.iconst 2, 1) := by decide +kernel
theorem dX11_run_96 : decode cX11_run 96 = .ok (.invokestatic 157, 3) := by decide +kernel
theorem dX11_run_99 : decode cX11_run 99 = .ok (.iaload, 1) := by decide +kernel
theorem dX11_run_100 : decode cX11_run 100 = .ok (.iconst 3, 1) := by decide +kernel
theorem dX11_run_101 : decode cX11_run 101 = .ok (.if_icmp .ne 7, 3) := by decide +kernel
theorem dX11_run_104 : decode cX11_run 104 = .ok (.iconst 1, 1) := by decide +kernel
theorem dX11_run_105 : decode cX11_run 105 = .ok (.goto 4, 3) := by decide +kernel
theorem dX11_run_108 : decode cX11_run 108 = .ok (.iconst 0, 1) := by decide +kernel
theorem dX11_run_109 : decode cX11_run 109 = .ok (.iadd, 1) := by decide +kernel
theorem dX11_run_110 : decode cX11_run 110 = .ok (.istore_n 2, 1) := by decide +kernel
theorem dX11_run_111 : decode cX11_run 111 = .ok (.iinc 3 1, 3) := by decide +kernel
theorem dX11_run_114 : decode cX11_run 114 = .ok (.goto (-33), 3) := by decide +kernel
theorem dX11_run_117 : decode cX11_run 117 = .ok (.iload_n 2, 1) := by decide +kernel
theorem dX11_run_118 : decode cX11_run 118 = .ok (.ireturn, 1) := by decide +kernel
theorem dX11_blackout_0 : decode cX11_blackout 0 = .ok (.aload_n 0, 1) := by decide +kernel
theorem dX11_blackout_1 : decode cX11_blackout 1 = .ok (.iconst 0, 1) := by decide +kernel
theorem dX11_blackout_2 : decode cX11_blackout 2 = .ok (.putfield 72, 3) := by decide +kernel
theorem dX11_blackout_5 : decode cX11_blackout 5 = .ok (.aload_n 0, 1) := by decide +kernel
theorem dX11_blackout_6 : decode cX11_blackout 6 = .ok (.iload_n 1, 1) := by decide +kernel
theorem dX11_blackout_7 : decode cX11_blackout 7 = .ok (.i2l, 1) := by decide +kernel
theorem dX11_blackout_8 : decode cX11_blackout 8 = .ok (.lconst 1, 1) := by decide +kernel
theorem dX11_blackout_9 : decode cX11_blackout 9 = .ok (.ldc2_w 338, 3) := by decide +kernel
theorem dX11_blackout_12 : decode cX11_blackout 12 = .ok (.invokestatic 82, 3) := by decide +kernel
theorem dX11_blackout_15 : decode cX11_blackout 15 = .ok (.iconst 1, 1) := by decide +kernel
theorem dX11_blackout_16 : decode cX11_blackout 16 = .ok (.invokevirtual 78, 3) := by decide +kernel
theorem dX11_blackout_19 : decode cX11_blackout 19 = .ok (.ifCond .ne 5, 3) := by decide +kernel
theorem dX11_blackout_22 : decode cX11_blackout 22 = .ok (.iconst 0, 1) := by decide +kernel
theorem dX11_blackout_23 : decode cX11_blackout 23 = .ok (.ireturn, 1) := by decide +kernel
theorem dX11_blackout_24 : decode cX11_blackout 24 = .ok (.aload_n 0, 1) := by decide +kernel
theorem dX11_blackout_25 : decode cX11_blackout 25 = .ok (.invokevirtual 335, 3) := by decide +kernel
theorem dX11_blackout_28 : decode cX11_blackout 28 = .ok (.aload_n 0, 1) := by decide +kernel
theorem dX11_blackout_29 : decode cX11_blackout 29 = .ok (.aload_n 0, 1) := by decide +kernel
theorem dX11_blackout_30 : decode cX11_blackout 30 = .ok (.getfield 25, 3) := by decide +kernel
theorem dX11_blackout_33 : decode cX11_blackout 33 = .ok (.iload_n 1, 1) := by decide +kernel
theorem dX11_blackout_34 : decode cX11_blackout 34 = .ok (.invokevirtual 271, 3) := by decide +kernel
theorem dX11_blackout_37 : decode cX11_blackout 37 = .ok (.aload_n 0, 1) := by decide +kernel
theorem dX11_blackout_38 : decode cX11_blackout 38 = .ok (.getfield 25, 3) := by decide +kernel
theorem dX11_blackout_41 : decode cX11_blackout 41 = .ok (.iconst 1, 1) := by decide +kernel
theorem dX11_blackout_42 : decode cX11_blackout 42 = .ok (.iaload, 1) := by decide +kernel
theorem dX11_blackout_43 : decode cX11_blackout 43 = .ok (.ireturn, 1) := by decide +kernel
theorem dX11_want_0 : decode cX11_want 0 = .ok (.aload_n 0, 1) := by decide +kernel
theorem dX11_want_1 : decode cX11_want 1 = .ok (.iconst 0, 1) := by decide +kernel
theorem dX11_want_2 : decode cX11_want 2 = .ok (.putfield 72, 3) := by decide +kernel
theorem dX11_want_5 : decode cX11_want 5 = .ok (.aload_n 0, 1) := by decide +kernel
theorem dX11_want_6 : decode cX11_want 6 = .ok (.aload_n 0, 1) := by decide +kernel
theorem dX11_want_7 : decode cX11_want 7 = .ok (.iload_n 1, 1) := by decide +kernel
theorem dX11_want_8 : decode cX11_want 8 = .ok (.invokevirtual 301, 3) := by decide +kernel
theorem dX11_want_11 : decode cX11_want 11 = .ok (.iconst 1, 1) := by decide +kernel
theorem dX11_want_12 : decode cX11_want 12 = .ok (.invokevirtual 78, 3) := by decide +kernel
theorem dX11_want_15 : decode cX11_want 15 = .ok (.ifCond .ne 5, 3) := by decide +kernel
theorem dX11_want_18 : decode cX11_want 18 = .ok (.iconst 0, 1) := by decide +kernel
theorem dX11_want_19 : decode cX11_want 19 = .ok (.ireturn, 1) := by decide +kernel
theorem dX11_want_20 : decode cX11_want 20 = .ok (.aload_n 0, 1) := by decide +kernel
theorem dX11_want_21 : decode cX11_want 21 = .ok (.invokevirtual 335, 3) := by decide +kernel
theorem dX11_want_24 : decode cX11_want 24 = .ok (.aload_n 0, 1) := by decide +kernel
theorem dX11_want_25 : decode cX11_want 25 = .ok (.getfield 25, 3) := by decide +kernel
theorem dX11_want_28 : decode cX11_want 28 = .ok (.iload_n 1, 1) := by decide +kernel
theorem dX11_want_29 : decode cX11_want 29 = .ok (.iconst 1, 1) := by decide +kernel
theorem dX11_want_30 : decode cX11_want 30 = .ok (.invokestatic 157, 3) := by decide +kernel
theorem dX11_want_33 : decode cX11_want 33 = .ok (.iaload, 1) := by decide +kernel
theorem dX11_want_34 : decode cX11_want 34 = .ok (.iconst 1, 1) := by decide +kernel
theorem dX11_want_35 : decode cX11_want 35 = .ok (.if_icmp .ne 7, 3) := by decide +kernel
theorem dX11_want_38 : decode cX11_want 38 = .ok (.iconst 1, 1) := by decide +kernel
theorem dX11_want_39 : decode cX11_want 39 = .ok (.goto 4, 3) := by decide +kernel
theorem dX11_want_42 : decode cX11_want 42 = .ok (.iconst 0, 1) := by decide +kernel
theorem dX11_want_43 : decode cX11_want 43 = .ok (.istore_n 3, 1) := by decide +kernel
theorem dX11_want_44 : decode cX11_want 44 = .ok (.iload_n 3, 1) := by decide +kernel
theorem dX11_want_45 : decode cX11_want 45 = .ok (.iload_n 2, 1) := by decide +kernel
theorem dX11_want_46 : decode cX11_want 46 = .ok (.if_icmp .ne 5, 3) := by decide +kernel
theorem dX11_want_49 : decode cX11_want 49 = .ok (.iload_n 3, 1) := by decide +kernel
theorem dX11_want_50 : decode cX11_want 50 = .ok (.ireturn, 1) := by decide +kernel
theorem dX11_want_51 : decode cX11_want 51 = .ok (.aload_n 0, 1) := by decide +kernel
theorem dX11_want_52 : decode cX11_want 52 = .ok (.getfield 25, 3) := by decide +kernel
theorem dX11_want_55 : decode cX11_want 55 = .ok (.iload_n 1, 1) := by decide +kernel
theorem dX11_want_56 : decode cX11_want 56 = .ok (.iconst 1, 1) := by decide +kernel
theorem dX11_want_57 : decode cX11_want 57 = .ok (.invokestatic 157, 3) := by decide +kernel
theorem dX11_want_60 : decode cX11_want 60 = .ok (.iload_n 2, 1) := by decide +kernel
theorem dX11_want_61 : decode cX11_want 61 = .ok (.ifCond .eq 7, 3) := by decide +kernel
theorem dX11_want_64 : decode cX11_want 64 = .ok (.iconst 1, 1) := by decide +kernel
theorem dX11_want_65 : decode cX11_want 65 = .ok (.goto 4, 3) := by decide +kernel
theorem dX11_want_68 : decode cX11_want 68 = .ok (.iconst 0, 1) := by decide +kernel
theorem dX11_want_69 : decode cX11_want 69 = .ok (.iastore, 1) := by decide +kernel
theorem dX11_want_70 : decode cX11_want 70 = .ok (.aload_n 0, 1) := by decide +kernel
theorem dX11_want_71 : decode cX11_want 71 = .ok (.getfield 25, 3) := by decide +kernel
theorem dX11_want_74 : decode cX11_want 74 = .ok (.iload_n 1, 1) := by decide +kernel
theorem dX11_want_75 : decode cX11_want 75 = .ok (.iconst 2, 1) := by decide +kernel
theorem dX11_want_76 : decode cX11_want 76 = .ok (.invokestatic 157, 3) := by decide +kernel
theorem dX11_want_79 : decode cX11_want 79 = .ok (.iaload, 1) := by decide +kernel
theorem dX11_want_80 : decode cX11_want 80 = .ok (.iconst 2, 1) := by decide +kernel
theorem dX11_want_81 : decode cX11_want 81 = .ok (.if_icmp .lt 15, 3) := by decide +kernel
theorem dX11_want_84 : decode cX11_want 84 = .ok (.aload_n 0, 1) := by decide +kernel
theorem dX11_want_85 : decode cX11_want 85 = .ok (.getfield 25, 3) := by decide +kernel
theorem dX11_want_88 : decode cX11_want 88 = .ok (.iload_n 1, 1) := by decide +kernel
theorem dX11_want_89 : decode cX11_want 89 = .ok (.bipush 7, 2) := by decide +kernel
theorem dX11_want_91 : decode cX11_want 91 = .ok (.invokestatic 157, 3) := by decide +kernel
theorem dX11_want_94 : decode cX11_want 94 = .ok (.iconst 1, 1) := by decide +kernel
theorem dX11_want_95 : decode cX11_want 95 = .ok (.iastore, 1) := by decide +kernel
theorem dX11_want_96 : decode cX11_want 96 = .ok (.aload_n 0, 1) := by decide +kernel
theorem dX11_want_97 : decode cX11_want 97 = .ok (.getfield 25, 3) := by decide +kernel
theorem dX11_want_100 : decode cX11_want 100 = .ok (.iload_n 1, 1) := by decide +kernel
theorem dX11_want_101 : decode cX11_want 101 = .ok (.iconst 2, 1) := by decide +kernel
theorem dX11_want_102 : decode cX11_want 102 = .ok (.invokestatic 157, 3) := by decide +kernel
theorem dX11_want_105 : decode cX11_want 105 = .ok (.iload_n 2, 1) := by decide +kernel
theorem dX11_want_106 : decode cX11_want 106 = .ok (.ifCond .eq 7, 3) := by decide +kernel
theorem dX11_want_109 : decode cX11_want 109 = .ok (.iconst 1, 1) := by decide +kernel
theorem dX11_want_110 : decode cX11_want 110 = .ok (.goto 4, 3) := by decide +kernel
theorem dX11_want_113 : decode cX11_want 113 = .ok (.iconst 0, 1) := by decide +kernel
theorem dX11_want_114 : decode cX11_want 114 = .ok (.iastore, 1) := by decide +kernel
theorem dX11_want_115 : decode cX11_want 115 = .ok (.aload_n 0, 1) := by decide +kernel
theorem dX11_want_116 : decode cX11_want 116 = .ok (.getfield 25, 3) := by decide +kernel
theorem dX11_want_119 : decode cX11_want 119 = .ok (.iload_n 1, 1) := by decide +kernel
theorem dX11_want_120 : decode cX11_want 120 = .ok (.iconst 3, 1) := by decide +kernel
theorem dX11_want_121 : decode cX11_want 121 = .ok (.invokestatic 157, 3) := by decide +kernel
theorem dX11_want_124 : decode cX11_want 124 = .ok (.iconst 0, 1) := by decide +kernel
theorem dX11_want_125 : decode cX11_want 125 = .ok (.iastore, 1) := by decide +kernel
theorem dX11_want_126 : decode cX11_want 126 = .ok (.aload_n 0, 1) := by decide +kernel
theorem dX11_want_127 : decode cX11_want 127 = .ok (.getfield 25, 3) := by decide +kernel
theorem dX11_want_130 : decode cX11_want 130 = .ok (.iload_n 1, 1) := by decide +kernel
theorem dX11_want_131 : decode cX11_want 131 = .ok (.bipush 6, 2) := by decide +kernel
theorem dX11_want_133 : decode cX11_want 133 = .ok (.invokestatic 157, 3) := by decide +kernel
theorem dX11_want_136 : decode cX11_want 136 = .ok (.iconst (-1), 1) := by decide +kernel
theorem dX11_want_137 : decode cX11_want 137 = .ok (.iastore, 1) := by decide +kernel
theorem dX11_want_138 : decode cX11_want 138 = .ok (.iload_n 3, 1) := by decide +kernel
theorem dX11_want_139 : decode cX11_want 139 = .ok (.ireturn, 1) := by decide +kernel
theorem dX11_setFuse_0 : decode cX11_setFuse 0 = .ok (.aload_n 0, 1) := by decide +kernel
theorem dX11_setFuse_1 : decode cX11_setFuse 1 = .ok (.iconst 0, 1) := by decide +kernel
theorem dX11_setFuse_2 : decode cX11_setFuse 2 = .ok (.putfield 72, 3) := by decide +kernel
theorem dX11_setFuse_5 : decode cX11_setFuse 5 = .ok (.aload_n 0, 1) := by decide +kernel
theorem dX11_setFuse_6 : decode cX11_setFuse 6 = .ok (.iload_n 1, 1) := by decide +kernel
theorem dX11_setFuse_7 : decode cX11_setFuse 7 = .ok (.i2l, 1) := by decide +kernel
theorem dX11_setFuse_8 : decode cX11_setFuse 8 = .ok (.lconst 1, 1) := by decide +kernel
theorem dX11_setFuse_9 : decode cX11_setFuse 9 = .ok (.ldc2_w 329, 3) := by decide +kernel
theorem dX11_setFuse_12 : decode cX11_setFuse 12 = .ok (.invokestatic 82, 3) := by decide +kernel
theorem dX11_setFuse_15 : decode cX11_setFuse 15 = .ok (.iconst 1, 1) := by decide +kernel
theorem dX11_setFuse_16 : decode cX11_setFuse 16 = .ok (.invokevirtual 78, 3) := by decide +kernel
theorem dX11_setFuse_19 : decode cX11_setFuse 19 = .ok (.ifCond .ne 5, 3) := by decide +kernel
theorem dX11_setFuse_22 : decode cX11_setFuse 22 = .ok (.iconst 0, 1) := by decide +kernel
theorem dX11_setFuse_23 : decode cX11_setFuse 23 = .ok (.ireturn, 1) := by decide +kernel
theorem dX11_setFuse_24 : decode cX11_setFuse 24 = .ok (.aload_n 0, 1) := by decide +kernel
theorem dX11_setFuse_25 : decode cX11_setFuse 25 = .ok (.invokevirtual 335, 3) := by decide +kernel
theorem dX11_setFuse_28 : decode cX11_setFuse 28 = .ok (.aload_n 0, 1) := by decide +kernel
theorem dX11_setFuse_29 : decode cX11_setFuse 29 = .ok (.getfield 25, 3) := by decide +kernel
theorem dX11_setFuse_32 : decode cX11_setFuse 32 = .ok (.bipush 6, 2) := by decide +kernel
theorem dX11_setFuse_34 : decode cX11_setFuse 34 = .ok (.iaload, 1) := by decide +kernel
theorem dX11_setFuse_35 : decode cX11_setFuse 35 = .ok (.istore_n 2, 1) := by decide +kernel
theorem dX11_setFuse_36 : decode cX11_setFuse 36 = .ok (.aload_n 0, 1) := by decide +kernel
theorem dX11_setFuse_37 : decode cX11_setFuse 37 = .ok (.getfield 25, 3) := by decide +kernel
theorem dX11_setFuse_40 : decode cX11_setFuse 40 = .ok (.bipush 6, 2) := by decide +kernel
theorem dX11_setFuse_42 : decode cX11_setFuse 42 = .ok (.iload_n 1, 1) := by decide +kernel
theorem dX11_setFuse_43 : decode cX11_setFuse 43 = .ok (.iastore, 1) := by decide +kernel
theorem dX11_setFuse_44 : decode cX11_setFuse 44 = .ok (.iload_n 2, 1) := by decide +kernel
theorem dX11_setFuse_45 : decode cX11_setFuse 45 = .ok (.ireturn, 1) := by decide +kernel
theorem dX11_setPriority_0 : decode cX11_setPriority 0 = .ok (.aload_n 0, 1) := by decide +kernel
theorem dX11_setPriority_1 : decode cX11_setPriority 1 = .ok (.iconst 0, 1) := by decide +kernel
theorem dX11_setPriority_2 : decode cX11_setPriority 2 = .ok (.putfield 72, 3) := by decide +kernel
theorem dX11_setPriority_5 : decode cX11_setPriority 5 = .ok (.aload_n 0, 1) := by decide +kernel
theorem dX11_setPriority_6 : decode cX11_setPriority 6 = .ok (.aload_n 0, 1) := by decide +kernel
theorem dX11_setPriority_7 : decode cX11_setPriority 7 = .ok (.iload_n 1, 1) := by decide +kernel
theorem dX11_setPriority_8 : decode cX11_setPriority 8 = .ok (.invokevirtual 301, 3) := by decide +kernel
theorem dX11_setPriority_11 : decode cX11_setPriority 11 = .ok (.iconst 1, 1) := by decide +kernel
theorem dX11_setPriority_12 : decode cX11_setPriority 12 = .ok (.invokevirtual 78, 3) := by decide +kernel
theorem dX11_setPriority_15 : decode cX11_setPriority 15 = .ok (.ifCond .eq 20, 3) := by decide +kernel
theorem dX11_setPriority_18 : decode cX11_setPriority 18 = .ok (.aload_n 0, 1) := by decide +kernel
theorem dX11_setPriority_19 : decode cX11_setPriority 19 = .ok (.iload_n 2, 1) := by decide +kernel
theorem dX11_setPriority_20 : decode cX11_setPriority 20 = .ok (.i2l, 1) := by decide +kernel
theorem dX11_setPriority_21 : decode cX11_setPriority 21 = .ok (.lconst 0, 1) := by decide +kernel
theorem dX11_setPriority_22 : decode cX11_setPriority 22 = .ok (.ldc2_w 304, 3) := by decide +kernel
theorem dX11_setPriority_25 : decode cX11_setPriority 25 = .ok (.invokestatic 82, 3) := by decide +kernel
theorem dX11_setPriority_28 : decode cX11_setPriority 28 = .ok (.iconst 2, 1) := by decide +kernel
theorem dX11_setPriority_29 : decode cX11_setPriority 29 = .ok (.invokevirtual 78, 3) := by decide +kernel
theorem dX11_setPriority_32 : decode cX11_setPriority 32 = .ok (.ifCond .ne 5, 3) := by decide +kernel
theorem dX11_setPriority_35 : decode cX11_setPriority 35 = .ok (.iconst 0, 1) := by decide +kernel
theorem dX11_setPriority_36 : decode cX11_setPriority 36 = .ok (.ireturn, 1) := by decide +kernel
theorem dX11_setPriority_37 : decode cX11_setPriority 37 = .ok (.aload_n 0, 1) := by decide +kernel
theorem dX11_setPriority_38 : decode cX11_setPriority 38 = .ok (.invokevirtual 335, 3) := by decide +kernel
theorem dX11_setPriority_41 : decode cX11_setPriority 41 = .ok (.aload_n 0, 1) := by decide +kernel
theorem dX11_setPriority_42 : decode cX11_setPriority 42 = .ok (.getfield 25, 3) := by decide +kernel
theorem dX11_setPriority_45 : decode cX11_setPriority 45 = .ok (.iload_n 1, 1) := by decide +kernel
theorem dX11_setPriority_46 : decode cX11_setPriority 46 = .ok (.iconst 0, 1) := by decide +kernel
theorem dX11_setPriority_47 : decode cX11_setPriority 47 = .ok (.invokestatic 157, 3) := by decide +kernel
theorem dX11_setPriority_50 : decode cX11_setPriority 50 = .ok (.iaload, 1) := by decide +kernel
theorem dX11_setPriority_51 : decode cX11_setPriority 51 = .ok (.istore_n 3, 1) := by decide +kernel
theorem dX11_setPriority_52 : decode cX11_setPriority 52 = .ok (.aload_n 0, 1) := by decide +kernel
theorem dX11_setPriority_53 : decode cX11_setPriority 53 = .ok (.getfield 25, 3) := by decide +kernel
theorem dX11_setPriority_56 : decode cX11_setPriority 56 = .ok (.iload_n 1, 1) := by decide +kernel
theorem dX11_setPriority_57 : decode cX11_setPriority 57 = .ok (.iconst 0, 1) := by decide +kernel
theorem dX11_setPriority_58 : decode cX11_setPriority 58 = .ok (.invokestatic 157, 3) := by decide +kernel
theorem dX11_setPriority_61 : decode cX11_setPriority 61 = .ok (.iload_n 2, 1) := by decide +kernel
theorem dX11_setPriority_62 : decode cX11_setPriority 62 = .ok (.iastore, 1) := by decide +kernel
theorem dX11_setPriority_63 : decode cX11_setPriority 63 = .ok (.iload_n 3, 1) := by decide +kernel
theorem dX11_setPriority_64 : decode cX11_setPriority 64 = .ok (.ireturn, 1) := by decide +kernel
theorem dX11_forget_0 : decode cX11_forget 0 = .ok (.aload_n 0, 1) := by decide +kernel
theorem dX11_forget_1 : decode cX11_forget 1 = .ok (.iconst 0, 1) := by decide +kernel
theorem dX11_forget_2 : decode cX11_forget 2 = .ok (.putfield 72, 3) := by decide +kernel
theorem dX11_forget_5 : decode cX11_forget 5 = .ok (.aload_n 0, 1) := by decide +kernel
theorem dX11_forget_6 : decode cX11_forget 6 = .ok (.invokevirtual 335, 3) := by decide +kernel
theorem dX11_forget_9 : decode cX11_forget 9 = .ok (.aload_n 0, 1) := by decide +kernel
theorem dX11_forget_10 : decode cX11_forget 10 = .ok (.getfield 25, 3) := by decide +kernel
theorem dX11_forget_13 : decode cX11_forget 13 = .ok (.invokestatic 321, 3) := by decide +kernel
theorem dX11_forget_16 : decode cX11_forget 16 = .ok (.ireturn, 1) := by decide +kernel
theorem dX11_undo_0 : decode cX11_undo 0 = .ok (.aload_n 0, 1) := by decide +kernel
theorem dX11_undo_1 : decode cX11_undo 1 = .ok (.iconst 0, 1) := by decide +kernel
theorem dX11_undo_2 : decode cX11_undo 2 = .ok (.putfield 72, 3) := by decide +kernel
theorem dX11_undo_5 : decode cX11_undo 5 = .ok (.aload_n 0, 1) := by decide +kernel
theorem dX11_undo_6 : decode cX11_undo 6 = .ok (.aload_n 0, 1) := by decide +kernel
theorem dX11_undo_7 : decode cX11_undo 7 = .ok (.getfield 219, 3) := by decide +kernel
theorem dX11_undo_10 : decode cX11_undo 10 = .ok (.ifCond .le 7, 3) := by decide +kernel
theorem dX11_undo_13 : decode cX11_undo 13 = .ok (.iconst 1, 1) := by decide +kernel
theorem dX11_undo_14 : decode cX11_undo 14 = .ok (.goto 4, 3) := by decide +kernel
theorem dX11_undo_17 : decode cX11_undo 17 = .ok (.iconst 0, 1) := by decide +kernel
theorem dX11_undo_18 : decode cX11_undo 18 = .ok (.iconst 1, 1) := by decide +kernel
theorem dX11_undo_19 : decode cX11_undo 19 = .ok (.invokevirtual 78, 3) := by decide +kernel
theorem dX11_undo_22 : decode cX11_undo 22 = .ok (.ifCond .ne 5, 3) := by decide +kernel
theorem dX11_undo_25 : decode cX11_undo 25 = .ok (.iconst 0, 1) := by decide +kernel
theorem dX11_undo_26 : decode cX11_undo 26 = .ok (.ireturn, 1) := by decide +kernel
theorem dX11_undo_27 : decode cX11_undo 27 = .ok (.aload_n 0, 1) := by decide +kernel
theorem dX11_undo_28 : decode cX11_undo 28 = .ok (.dup, 1) := by decide +kernel
theorem dX11_undo_29 : decode cX11_undo 29 = .ok (.getfield 219, 3) := by decide +kernel
theorem dX11_undo_32 : decode cX11_undo 32 = .ok (.iconst 1, 1) := by decide +kernel
theorem dX11_undo_33 : decode cX11_undo 33 = .ok (.isub, 1) := by decide +kernel
theorem dX11_undo_34 : decode cX11_undo 34 = .ok (.putfield 219, 3) := by decide +kernel
theorem dX11_undo_37 : decode cX11_undo 37 = .ok (.iconst 0, 1) := by decide +kernel
theorem dX11_undo_38 : decode cX11_undo 38 = .ok (.istore_n 1, 1) := by decide +kernel
theorem dX11_undo_39 : decode cX11_undo 39 = .ok (.iload_n 1, 1) := by decide +kernel
theorem dX11_undo_40 : decode cX11_undo 40 = .ok (.sipush 411, 3) := by decide +kernel
theorem dX11_undo_43 : decode cX11_undo 43 = .ok (.if_icmp .ge 30, 3) := by decide +kernel
theorem dX11_undo_46 : decode cX11_undo 46 = .ok (.aload_n 0, 1) := by decide +kernel
theorem dX11_undo_47 : decode cX11_undo 47 = .ok (.getfield 25, 3) := by decide +kernel
theorem dX11_undo_50 : decode cX11_undo 50 = .ok (.iload_n 1, 1) := by decide +kernel
theorem dX11_undo_51 : decode cX11_undo 51 = .ok (.aload_n 0, 1) := by decide +kernel
theorem dX11_undo_52 : decode cX11_undo 52 = .ok (.getfield 31, 3) := by decide +kernel
theorem dX11_undo_55 : decode cX11_undo 55 = .ok (.sipush 411, 3) := by decide +kernel
theorem dX11_undo_58 : decode cX11_undo 58 = .ok (.aload_n 0, 1) := by decide +kernel
theorem dX11_undo_59 : decode cX11_undo 59 = .ok (.getfield 219, 3) := by decide +kernel
theorem dX11_undo_62 : decode cX11_undo 62 = .ok (.imul, 1) := by decide +kernel
theorem dX11_undo_63 : decode cX11_undo 63 = .ok (.iload_n 1, 1) := by decide +kernel
theorem dX11_undo_64 : decode cX11_undo 64 = .ok (.iadd, 1) := by decide +kernel
theorem dX11_undo_65 : decode cX11_undo 65 = .ok (.iaload, 1) := by decide +kernel
theorem dX11_undo_66 : decode cX11_undo 66 = .ok (.iastore, 1) := by decide +kernel
theorem dX11_undo_67 : decode cX11_undo 67 = .ok (.iinc 1 1, 3) := by decide +kernel
theorem dX11_undo_70 : decode cX11_undo 70 = .ok (.goto (-31), 3) := by decide +kernel
theorem dX11_undo_73 : decode cX11_undo 73 = .ok (.aload_n 0, 1) := by decide +kernel
theorem dX11_undo_74 : decode cX11_undo 74 = .ok (.getfield 219, 3) := by decide +kernel
theorem dX11_undo_77 : decode cX11_undo 77 = .ok (.ireturn, 1) := by decide +kernel
theorem dX11_isSlot_0 : decode cX11_isSlot 0 = .ok (.iload_n 0, 1) := by decide +kernel
theorem dX11_isSlot_1 : decode cX11_isSlot 1 = .ok (.i2l, 1) := by decide +kernel
theorem dX11_isSlot_2 : decode cX11_isSlot 2 = .ok (.lconst 0, 1) := by decide +kernel
theorem dX11_isSlot_3 : decode cX11_isSlot 3 = .ok (.lconst 1, 1) := by decide +kernel
theorem dX11_isSlot_4 : decode cX11_isSlot 4 = .ok (.invokestatic 82, 3) := by decide +kernel
theorem dX11_isSlot_7 : decode cX11_isSlot 7 = .ok (.ireturn, 1) := by decide +kernel
theorem dX11_save_0 : decode cX11_save 0 = .ok (.aload_n 0, 1) := by decide +kernel
theorem dX11_save_1 : decode cX11_save 1 = .ok (.iconst 0, 1) := by decide +kernel
theorem dX11_save_2 : decode cX11_save 2 = .ok (.putfield 72, 3) := by decide +kernel
theorem dX11_save_5 : decode cX11_save 5 = .ok (.aload_n 0, 1) := by decide +kernel
theorem dX11_save_6 : decode cX11_save 6 = .ok (.iload_n 1, 1) := by decide +kernel
theorem dX11_save_7 : decode cX11_save 7 = .ok (.invokestatic 340, 3) := by decide +kernel
theorem dX11_save_10 : decode cX11_save 10 = .ok (.iconst 1, 1) := by decide +kernel
theorem dX11_save_11 : decode cX11_save 11 = .ok (.invokevirtual 78, 3) := by decide +kernel
theorem dX11_save_14 : decode cX11_save 14 = .ok (.ifCond .ne 4, 3) := by decide +kernel
theorem dX11_save_17 : decode cX11_save 17 = .ok (.return_, 1) := by decide +kernel
theorem dX11_save_18 : decode cX11_save 18 = .ok (.iconst 0, 1) := by decide +kernel
theorem dX11_save_19 : decode cX11_save 19 = .ok (.istore_n 2, 1) := by decide +kernel
theorem dX11_save_20 : decode cX11_save 20 = .ok (.iload_n 2, 1) := by decide +kernel
theorem dX11_save_21 : decode cX11_save 21 = .ok (.sipush 411, 3) := by decide +kernel
theorem dX11_save_24 : decode cX11_save 24 = .ok (.if_icmp .ge 27, 3) := by decide +kernel
theorem dX11_save_27 : decode cX11_save 27 = .ok (.aload_n 0, 1) := by decide +kernel
theorem dX11_save_28 : decode cX11_save 28 = .ok (.getfield 34, 3) := by decide +kernel
theorem dX11_save_31 : decode cX11_save 31 = .ok (.sipush 411, 3) := by decide +kernel
theorem dX11_save_34 : decode cX11_save 34 = .ok (.iload_n 1, 1) := by decide +kernel
theorem dX11_save_35 : decode cX11_save 35 = .ok (.imul, 1) := by decide +kernel
theorem dX11_save_36 : decode cX11_save 36 = .ok (.iload_n 2, 1) := by decide +kernel
theorem dX11_save_37 : decode cX11_save 37 = .ok (.iadd, 1) := by decide +kernel
theorem dX11_save_38 : decode cX11_save 38 = .ok (.aload_n 0, 1) := by decide +kernel
theorem dX11_save_39 : decode cX11_save 39 = .ok (.getfield 25, 3) := by decide +kernel
theorem dX11_save_42 : decode cX11_save 42 = .ok (.iload_n 2, 1) := by decide +kernel
theorem dX11_save_43 : decode cX11_save 43 = .ok (.iaload, 1) := by decide +kernel
theorem dX11_save_44 : decode cX11_save 44 = .ok (.iastore, 1) := by decide +kernel
theorem dX11_save_45 : decode cX11_save 45 = .ok (.iinc 2 1, 3) := by decide +kernel
theorem dX11_save_48 : decode cX11_save 48 = .ok (.goto (-28), 3) := by decide +kernel
theorem dX11_save_51 : decode cX11_save 51 = .ok (.aload_n 0, 1) := by decide +kernel
theorem dX11_save_52 : decode cX11_save 52 = .ok (.getfield 37, 3) := by decide +kernel
theorem dX11_save_55 : decode cX11_save 55 = .ok (.iload_n 1, 1) := by decide +kernel
theorem dX11_save_56 : decode cX11_save 56 = .ok (.iconst 1, 1) := by decide +kernel
theorem dX11_save_57 : decode cX11_save 57 = .ok (.bastore, 1) := by decide +kernel
theorem dX11_save_58 : decode cX11_save 58 = .ok (.return_, 1) := by decide +kernel
theorem dX11_restore_0 : decode cX11_restore 0 = .ok (.aload_n 0, 1) := by decide +kernel
theorem dX11_restore_1 : decode cX11_restore 1 = .ok (.iconst 0, 1) := by decide +kernel
theorem dX11_restore_2 : decode cX11_restore 2 = .ok (.putfield 72, 3) := by decide +kernel
theorem dX11_restore_5 : decode cX11_restore 5 = .ok (.aload_n 0, 1) := by decide +kernel
theorem dX11_restore_6 : decode cX11_restore 6 = .ok (.iload_n 1, 1) := by decide +kernel
theorem dX11_restore_7 : decode cX11_restore 7 = .ok (.invokestatic 340, 3) := by decide +kernel
theorem dX11_restore_10 : decode cX11_restore 10 = .ok (.iconst 1, 1) := by decide +kernel
theorem dX11_restore_11 : decode cX11_restore 11 = .ok (.invokevirtual 78, 3) := by decide +kernel
theorem dX11_restore_14 : decode cX11_restore 14 = .ok (.ifCond .eq 17, 3) := by decide +kernel
theorem dX11_restore_17 : decode cX11_restore 17 = .ok (.aload_n 0, 1) := by decide +kernel
theorem dX11_restore_18 : decode cX11_restore 18 = .ok (.aload_n 0, 1) := by decide +kernel
theorem dX11_restore_19 : decode cX11_restore 19 = .ok (.getfield 37, 3) := by decide +kernel
theorem dX11_restore_22 : decode cX11_restore 22 = .ok (.iload_n 1, 1) := by decide +kernel
theorem dX11_restore_23 : decode cX11_restore 23 = .ok (.baload, 1) := by decide +kernel
theorem dX11_restore_24 : decode cX11_restore 24 = .ok (.iconst 2, 1) := by decide +kernel
theorem dX11_restore_25 : decode cX11_restore 25 = .ok (.invokevirtual 78, 3) := by decide +kernel
theorem dX11_restore_28 : decode cX11_restore 28 = .ok (.ifCond .ne 4, 3) := by decide +kernel
theorem dX11_restore_31 : decode cX11_restore 31 = .ok (.return_, 1) := by decide +kernel
theorem dX11_restore_32 : decode cX11_restore 32 = .ok (.iconst 0, 1) := by decide +kernel
theorem dX11_restore_33 : decode cX11_restore 33 = .ok (.istore_n 2, 1) := by decide +kernel
theorem dX11_restore_34 : decode cX11_restore 34 = .ok (.iload_n 2, 1) := by decide +kernel
theorem dX11_restore_35 : decode cX11_restore 35 = .ok (.sipush 411, 3) := by decide +kernel
theorem dX11_restore_38 : decode cX11_restore 38 = .ok (.if_icmp .ge 27, 3) := by decide +kernel
theorem dX11_restore_41 : decode cX11_restore 41 = .ok (.aload_n 0, 1) := by decide +kernel
theorem dX11_restore_42 : decode cX11_restore 42 = .ok (.getfield 25, 3) := by decide +kernel
theorem dX11_restore_45 : decode cX11_restore 45 = .ok (.iload_n 2, 1) := by decide +kernel
theorem dX11_restore_46 : decode cX11_restore 46 = .ok (.aload_n 0, 1) := by decide +kernel
theorem dX11_restore_47 : decode cX11_restore 47 = .ok (.getfield 34, 3) := by decide +kernel
theorem dX11_restore_50 : decode cX11_restore 50 = .ok (.sipush 411, 3) := by decide +kernel
theorem dX11_restore_53 : decode cX11_restore 53 = .ok (.iload_n 1, 1) := by decide +kernel
theorem dX11_restore_54 : decode cX11_restore 54 = .ok (.imul, 1) := by decide +kernel
theorem dX11_restore_55 : decode cX11_restore 55 = .ok (.iload_n 2, 1) := by decide +kernel
theorem dX11_restore_56 : decode cX11_restore 56 = .ok (.iadd, 1) := by decide +kernel
theorem dX11_restore_57 : decode cX11_restore 57 = .ok (.iaload, 1) := by decide +kernel
theorem dX11_restore_58 : decode cX11_restore 58 = .ok (.iastore, 1) := by decide +kernel
theorem dX11_restore_59 : decode cX11_restore 59 = .ok (.iinc 2 1, 3) := by decide +kernel
theorem dX11_restore_62 : decode cX11_restore 62 = .ok (.goto (-28), 3) := by decide +kernel
theorem dX11_restore_65 : decode cX11_restore 65 = .ok (.aload_n 0, 1) := by decide +kernel
theorem dX11_restore_66 : decode cX11_restore 66 = .ok (.iconst 0, 1) := by decide +kernel
theorem dX11_restore_67 : decode cX11_restore 67 = .ok (.putfield 219, 3) := by decide +kernel
theorem dX11_restore_70 : decode cX11_restore 70 = .ok (.return_, 1) := by decide +kernel
