-- out of the printed names: what stands at each place of the code
theorem dX10_init_0 : decode cX10_init 0 = .ok (.aload_n 0, 1) := by decide +kernel
theorem dX10_init_1 : decode cX10_init 1 = .ok (.invokespecial 3, 3) := by decide +kernel
theorem dX10_init_4 : decode cX10_init 4 = .ok (.aload_n 0, 1) := by decide +kernel
theorem dX10_init_5 : decode cX10_init 5 = .ok (.new 9, 3) := by decide +kernel
theorem dX10_init_8 : decode cX10_init 8 = .ok (.dup, 1) := by decide +kernel
theorem dX10_init_9 : decode cX10_init 9 = .ok (.invokespecial 11, 3) := by decide +kernel
theorem dX10_init_12 : decode cX10_init 12 = .ok (.putfield 12, 3) := by decide +kernel
theorem dX10_init_15 : decode cX10_init 15 = .ok (.aload_n 0, 1) := by decide +kernel
theorem dX10_init_16 : decode cX10_init 16 = .ok (.new 16, 3) := by decide +kernel
theorem dX10_init_19 : decode cX10_init 19 = .ok (.dup, 1) := by decide +kernel
theorem dX10_init_20 : decode cX10_init 20 = .ok (.aload_n 0, 1) := by decide +kernel
theorem dX10_init_21 : decode cX10_init 21 = .ok (.getfield 12, 3) := by decide +kernel
theorem dX10_init_24 : decode cX10_init 24 = .ok (.invokespecial 18, 3) := by decide +kernel
theorem dX10_init_27 : decode cX10_init 27 = .ok (.putfield 21, 3) := by decide +kernel
theorem dX10_init_30 : decode cX10_init 30 = .ok (.aload_n 0, 1) := by decide +kernel
theorem dX10_init_31 : decode cX10_init 31 = .ok (.new 25, 3) := by decide +kernel
theorem dX10_init_34 : decode cX10_init 34 = .ok (.dup, 1) := by decide +kernel
theorem dX10_init_35 : decode cX10_init 35 = .ok (.invokespecial 27, 3) := by decide +kernel
theorem dX10_init_38 : decode cX10_init 38 = .ok (.putfield 28, 3) := by decide +kernel
theorem dX10_init_41 : decode cX10_init 41 = .ok (.aload_n 0, 1) := by decide +kernel
theorem dX10_init_42 : decode cX10_init 42 = .ok (.new 32, 3) := by decide +kernel
theorem dX10_init_45 : decode cX10_init 45 = .ok (.dup, 1) := by decide +kernel
theorem dX10_init_46 : decode cX10_init 46 = .ok (.aload_n 0, 1) := by decide +kernel
theorem dX10_init_47 : decode cX10_init 47 = .ok (.getfield 28, 3) := by decide +kernel
theorem dX10_init_50 : decode cX10_init 50 = .ok (.invokespecial 34, 3) := by decide +kernel
theorem dX10_init_53 : decode cX10_init 53 = .ok (.putfield 37, 3) := by decide +kernel
theorem dX10_init_56 : decode cX10_init 56 = .ok (.aload_n 0, 1) := by decide +kernel
theorem dX10_init_57 : decode cX10_init 57 = .ok (.new 32, 3) := by decide +kernel
theorem dX10_init_60 : decode cX10_init 60 = .ok (.dup, 1) := by decide +kernel
theorem dX10_init_61 : decode cX10_init 61 = .ok (.aload_n 0, 1) := by decide +kernel
theorem dX10_init_62 : decode cX10_init 62 = .ok (.getfield 28, 3) := by decide +kernel
theorem dX10_init_65 : decode cX10_init 65 = .ok (.invokespecial 34, 3) := by decide +kernel
theorem dX10_init_68 : decode cX10_init 68 = .ok (.putfield 41, 3) := by decide +kernel
theorem dX10_init_71 : decode cX10_init 71 = .ok (.aload_n 0, 1) := by decide +kernel
theorem dX10_init_72 : decode cX10_init 72 = .ok (.new 44, 3) := by decide +kernel
theorem dX10_init_75 : decode cX10_init 75 = .ok (.dup, 1) := by decide +kernel
theorem dX10_init_76 : decode cX10_init 76 = .ok (.aload_n 0, 1) := by decide +kernel
theorem dX10_init_77 : decode cX10_init 77 = .ok (.getfield 28, 3) := by decide +kernel
theorem dX10_init_80 : decode cX10_init 80 = .ok (.invokespecial 46, 3) := by decide +kernel
theorem dX10_init_83 : decode cX10_init 83 = .ok (.putfield 47, 3) := by decide +kernel
theorem dX10_init_86 : decode cX10_init 86 = .ok (.aload_n 0, 1) := by decide +kernel
theorem dX10_init_87 : decode cX10_init 87 = .ok (.getfield 37, 3) := by decide +kernel
theorem dX10_init_90 : decode cX10_init 90 = .ok (.invokevirtual 51, 3) := by decide +kernel
theorem dX10_init_93 : decode cX10_init 93 = .ok (.return_, 1) := by decide +kernel
theorem dX10_append_0 : decode cX10_append 0 = .ok (.aload_n 0, 1) := by decide +kernel
theorem dX10_append_1 : decode cX10_append 1 = .ok (.getfield 12, 3) := by decide +kernel
theorem dX10_append_4 : decode cX10_append 4 = .ok (.getfield 54, 3) := by decide +kernel
theorem dX10_append_7 : decode cX10_append 7 = .ok (.bipush 20, 2) := by decide +kernel
theorem dX10_append_9 : decode cX10_append 9 = .ok (.iadd, 1) := by decide +kernel
theorem dX10_append_10 : decode cX10_append 10 = .ok (.sipush 900, 3) := by decide +kernel
theorem dX10_append_13 : decode cX10_append 13 = .ok (.if_icmp .le 13, 3) := by decide +kernel
theorem dX10_append_16 : decode cX10_append 16 = .ok (.new 58, 3) := by decide +kernel
theorem dX10_append_19 : decode cX10_append 19 = .ok (.dup, 1) := by decide +kernel
theorem dX10_append_20 : decode cX10_append 20 = .ok (.ldc 60, 2) := by decide +kernel
theorem dX10_append_22 : decode cX10_append 22 = .ok (.invokespecial 62, 3) := by decide +kernel
theorem dX10_append_25 : decode cX10_append 25 = .ok (.athrow, 1) := by decide +kernel
theorem dX10_append_26 : decode cX10_append 26 = .ok (.aload_n 0, 1) := by decide +kernel
theorem dX10_append_27 : decode cX10_append 27 = .ok (.getfield 12, 3) := by decide +kernel
theorem dX10_append_30 : decode cX10_append 30 = .ok (.iload_n 1, 1) := by decide +kernel
theorem dX10_append_31 : decode cX10_append 31 = .ok (.invokevirtual 65, 3) := by decide +kernel
theorem dX10_append_34 : decode cX10_append 34 = .ok (.aload_n 0, 1) := by decide +kernel
theorem dX10_append_35 : decode cX10_append 35 = .ok (.getfield 12, 3) := by decide +kernel
theorem dX10_append_38 : decode cX10_append 38 = .ok (.iload_n 2, 1) := by decide +kernel
theorem dX10_append_39 : decode cX10_append 39 = .ok (.invokevirtual 65, 3) := by decide +kernel
theorem dX10_append_42 : decode cX10_append 42 = .ok (.aload_n 0, 1) := by decide +kernel
theorem dX10_append_43 : decode cX10_append 43 = .ok (.getfield 12, 3) := by decide +kernel
theorem dX10_append_46 : decode cX10_append 46 = .ok (.iload_n 3, 1) := by decide +kernel
theorem dX10_append_47 : decode cX10_append 47 = .ok (.invokevirtual 65, 3) := by decide +kernel
theorem dX10_append_50 : decode cX10_append 50 = .ok (.aload_n 0, 1) := by decide +kernel
theorem dX10_append_51 : decode cX10_append 51 = .ok (.getfield 12, 3) := by decide +kernel
theorem dX10_append_54 : decode cX10_append 54 = .ok (.iload 4, 2) := by decide +kernel
theorem dX10_append_56 : decode cX10_append 56 = .ok (.invokevirtual 65, 3) := by decide +kernel
theorem dX10_append_59 : decode cX10_append 59 = .ok (.aload_n 0, 1) := by decide +kernel
theorem dX10_append_60 : decode cX10_append 60 = .ok (.getfield 12, 3) := by decide +kernel
theorem dX10_append_63 : decode cX10_append 63 = .ok (.iload 5, 2) := by decide +kernel
theorem dX10_append_65 : decode cX10_append 65 = .ok (.invokevirtual 65, 3) := by decide +kernel
theorem dX10_append_68 : decode cX10_append 68 = .ok (.aload_n 0, 1) := by decide +kernel
theorem dX10_append_69 : decode cX10_append 69 = .ok (.getfield 12, 3) := by decide +kernel
theorem dX10_append_72 : decode cX10_append 72 = .ok (.getfield 54, 3) := by decide +kernel
theorem dX10_append_75 : decode cX10_append 75 = .ok (.ireturn, 1) := by decide +kernel
theorem dX10_truncate_0 : decode cX10_truncate 0 = .ok (.iload_n 1, 1) := by decide +kernel
theorem dX10_truncate_1 : decode cX10_truncate 1 = .ok (.ifCond .lt 14, 3) := by decide +kernel
theorem dX10_truncate_4 : decode cX10_truncate 4 = .ok (.iload_n 1, 1) := by decide +kernel
theorem dX10_truncate_5 : decode cX10_truncate 5 = .ok (.aload_n 0, 1) := by decide +kernel
theorem dX10_truncate_6 : decode cX10_truncate 6 = .ok (.getfield 12, 3) := by decide +kernel
theorem dX10_truncate_9 : decode cX10_truncate 9 = .ok (.getfield 54, 3) := by decide +kernel
theorem dX10_truncate_12 : decode cX10_truncate 12 = .ok (.if_icmp .le 13, 3) := by decide +kernel
theorem dX10_truncate_15 : decode cX10_truncate 15 = .ok (.new 69, 3) := by decide +kernel
theorem dX10_truncate_18 : decode cX10_truncate 18 = .ok (.dup, 1) := by decide +kernel
theorem dX10_truncate_19 : decode cX10_truncate 19 = .ok (.ldc 71, 2) := by decide +kernel
theorem dX10_truncate_21 : decode cX10_truncate 21 = .ok (.invokespecial 73, 3) := by decide +kernel
theorem dX10_truncate_24 : decode cX10_truncate 24 = .ok (.athrow, 1) := by decide +kernel
theorem dX10_truncate_25 : decode cX10_truncate 25 = .ok (.aload_n 0, 1) := by decide +kernel
theorem dX10_truncate_26 : decode cX10_truncate 26 = .ok (.getfield 12, 3) := by decide +kernel
theorem dX10_truncate_29 : decode cX10_truncate 29 = .ok (.iload_n 1, 1) := by decide +kernel
theorem dX10_truncate_30 : decode cX10_truncate 30 = .ok (.putfield 54, 3) := by decide +kernel
theorem dX10_truncate_33 : decode cX10_truncate 33 = .ok (.iload_n 1, 1) := by decide +kernel
theorem dX10_truncate_34 : decode cX10_truncate 34 = .ok (.ireturn, 1) := by decide +kernel
theorem dX10_load_0 : decode cX10_load 0 = .ok (.aload_n 0, 1) := by decide +kernel
theorem dX10_load_1 : decode cX10_load 1 = .ok (.getfield 21, 3) := by decide +kernel
theorem dX10_load_4 : decode cX10_load 4 = .ok (.invokevirtual 74, 3) := by decide +kernel
theorem dX10_load_7 : decode cX10_load 7 = .ok (.istore_n 1, 1) := by decide +kernel
theorem dX10_load_8 : decode cX10_load 8 = .ok (.aload_n 0, 1) := by decide +kernel
theorem dX10_load_9 : decode cX10_load 9 = .ok (.getfield 12, 3) := by decide +kernel
theorem dX10_load_12 : decode cX10_load 12 = .ok (.iconst 0, 1) := by decide +kernel
theorem dX10_load_13 : decode cX10_load 13 = .ok (.putfield 54, 3) := by decide +kernel
theorem dX10_load_16 : decode cX10_load 16 = .ok (.iload_n 1, 1) := by decide +kernel
theorem dX10_load_17 : decode cX10_load 17 = .ok (.ifCond .ne 13, 3) := by decide +kernel
theorem dX10_load_20 : decode cX10_load 20 = .ok (.new 78, 3) := by decide +kernel
theorem dX10_load_23 : decode cX10_load 23 = .ok (.dup, 1) := by decide +kernel
theorem dX10_load_24 : decode cX10_load 24 = .ok (.ldc 80, 2) := by decide +kernel
theorem dX10_load_26 : decode cX10_load 26 = .ok (.invokespecial 82, 3) := by decide +kernel
theorem dX10_load_29 : decode cX10_load 29 = .ok (.athrow, 1) := by decide +kernel
theorem dX10_load_30 : decode cX10_load 30 = .ok (.aload_n 0, 1) := by decide +kernel
theorem dX10_load_31 : decode cX10_load 31 = .ok (.getfield 28, 3) := by decide +kernel
theorem dX10_load_34 : decode cX10_load 34 = .ok (.aload_n 0, 1) := by decide +kernel
theorem dX10_load_35 : decode cX10_load 35 = .ok (.getfield 21, 3) := by decide +kernel
theorem dX10_load_38 : decode cX10_load 38 = .ok (.getfield 83, 3) := by decide +kernel
theorem dX10_load_41 : decode cX10_load 41 = .ok (.invokevirtual 86, 3) := by decide +kernel
theorem dX10_load_44 : decode cX10_load 44 = .ok (.aload_n 0, 1) := by decide +kernel
theorem dX10_load_45 : decode cX10_load 45 = .ok (.getfield 37, 3) := by decide +kernel
theorem dX10_load_48 : decode cX10_load 48 = .ok (.invokevirtual 51, 3) := by decide +kernel
theorem dX10_load_51 : decode cX10_load 51 = .ok (.aload_n 0, 1) := by decide +kernel
theorem dX10_load_52 : decode cX10_load 52 = .ok (.getfield 47, 3) := by decide +kernel
theorem dX10_load_55 : decode cX10_load 55 = .ok (.invokevirtual 89, 3) := by decide +kernel
theorem dX10_load_58 : decode cX10_load 58 = .ok (.aload_n 0, 1) := by decide +kernel
theorem dX10_load_59 : decode cX10_load 59 = .ok (.getfield 47, 3) := by decide +kernel
theorem dX10_load_62 : decode cX10_load 62 = .ok (.invokevirtual 92, 3) := by decide +kernel
theorem dX10_load_65 : decode cX10_load 65 = .ok (.aload_n 0, 1) := by decide +kernel
theorem dX10_load_66 : decode cX10_load 66 = .ok (.getfield 28, 3) := by decide +kernel
theorem dX10_load_69 : decode cX10_load 69 = .ok (.getfield 95, 3) := by decide +kernel
theorem dX10_load_72 : decode cX10_load 72 = .ok (.ireturn, 1) := by decide +kernel
theorem dX10_errorCode_0 : decode cX10_errorCode 0 = .ok (.aload_n 0, 1) := by decide +kernel
theorem dX10_errorCode_1 : decode cX10_errorCode 1 = .ok (.getfield 21, 3) := by decide +kernel
theorem dX10_errorCode_4 : decode cX10_errorCode 4 = .ok (.getfield 98, 3) := by decide +kernel
theorem dX10_errorCode_7 : decode cX10_errorCode 7 = .ok (.ireturn, 1) := by decide +kernel
theorem dX10_errorPosition_0 : decode cX10_errorPosition 0 = .ok (.aload_n 0, 1) := by decide +kernel
theorem dX10_errorPosition_1 : decode cX10_errorPosition 1 = .ok (.getfield 21, 3) := by decide +kernel
theorem dX10_errorPosition_4 : decode cX10_errorPosition 4 = .ok (.getfield 101, 3) := by decide +kernel
theorem dX10_errorPosition_7 : decode cX10_errorPosition 7 = .ok (.ireturn, 1) := by decide +kernel
theorem dX10_find_0 : decode cX10_find 0 = .ok (.aload_n 0, 1) := by decide +kernel
theorem dX10_find_1 : decode cX10_find 1 = .ok (.getfield 28, 3) := by decide +kernel
theorem dX10_find_4 : decode cX10_find 4 = .ok (.aload_n 0, 1) := by decide +kernel
theorem dX10_find_5 : decode cX10_find 5 = .ok (.getfield 12, 3) := by decide +kernel
theorem dX10_find_8 : decode cX10_find 8 = .ok (.iconst 0, 1) := by decide +kernel
theorem dX10_find_9 : decode cX10_find 9 = .ok (.aload_n 0, 1) := by decide +kernel
theorem dX10_find_10 : decode cX10_find 10 = .ok (.getfield 12, 3) := by decide +kernel
theorem dX10_find_13 : decode cX10_find 13 = .ok (.getfield 54, 3) := by decide +kernel
theorem dX10_find_16 : decode cX10_find 16 = .ok (.invokevirtual 104, 3) := by decide +kernel
theorem dX10_find_19 : decode cX10_find 19 = .ok (.invokevirtual 108, 3) := by decide +kernel
theorem dX10_find_22 : decode cX10_find 22 = .ok (.istore_n 1, 1) := by decide +kernel
theorem dX10_find_23 : decode cX10_find 23 = .ok (.aload_n 0, 1) := by decide +kernel
theorem dX10_find_24 : decode cX10_find 24 = .ok (.getfield 12, 3) := by decide +kernel
theorem dX10_find_27 : decode cX10_find 27 = .ok (.iconst 0, 1) := by decide +kernel
theorem dX10_find_28 : decode cX10_find 28 = .ok (.putfield 54, 3) := by decide +kernel
theorem dX10_find_31 : decode cX10_find 31 = .ok (.iload_n 1, 1) := by decide +kernel
theorem dX10_find_32 : decode cX10_find 32 = .ok (.iconst (-1), 1) := by decide +kernel
theorem dX10_find_33 : decode cX10_find 33 = .ok (.if_icmp .ne 13, 3) := by decide +kernel
theorem dX10_find_36 : decode cX10_find 36 = .ok (.new 112, 3) := by decide +kernel
theorem dX10_find_39 : decode cX10_find 39 = .ok (.dup, 1) := by decide +kernel
theorem dX10_find_40 : decode cX10_find 40 = .ok (.ldc 114, 2) := by decide +kernel
theorem dX10_find_42 : decode cX10_find 42 = .ok (.invokespecial 116, 3) := by decide +kernel
theorem dX10_find_45 : decode cX10_find 45 = .ok (.athrow, 1) := by decide +kernel
theorem dX10_find_46 : decode cX10_find 46 = .ok (.iload_n 1, 1) := by decide +kernel
theorem dX10_find_47 : decode cX10_find 47 = .ok (.ireturn, 1) := by decide +kernel
theorem dX10_count_0 : decode cX10_count 0 = .ok (.iload_n 1, 1) := by decide +kernel
theorem dX10_count_1 : decode cX10_count 1 = .ok (.tableswitch 208 0 13 #[71, 79, 87, 95, 111, 119, 127, 138, 149, 160, 168, 176, 184, 200], 71) := by decide +kernel
theorem dX10_count_72 : decode cX10_count 72 = .ok (.aload_n 0, 1) := by decide +kernel
theorem dX10_count_73 : decode cX10_count 73 = .ok (.getfield 28, 3) := by decide +kernel
theorem dX10_count_76 : decode cX10_count 76 = .ok (.getfield 95, 3) := by decide +kernel
theorem dX10_count_79 : decode cX10_count 79 = .ok (.ireturn, 1) := by decide +kernel
theorem dX10_count_80 : decode cX10_count 80 = .ok (.aload_n 0, 1) := by decide +kernel
theorem dX10_count_81 : decode cX10_count 81 = .ok (.getfield 28, 3) := by decide +kernel
theorem dX10_count_84 : decode cX10_count 84 = .ok (.invokevirtual 117, 3) := by decide +kernel
theorem dX10_count_87 : decode cX10_count 87 = .ok (.ireturn, 1) := by decide +kernel
theorem dX10_count_88 : decode cX10_count 88 = .ok (.aload_n 0, 1) := by decide +kernel
theorem dX10_count_89 : decode cX10_count 89 = .ok (.getfield 37, 3) := by decide +kernel
theorem dX10_count_92 : decode cX10_count 92 = .ok (.getfield 121, 3) := by decide +kernel
theorem dX10_count_95 : decode cX10_count 95 = .ok (.ireturn, 1) := by decide +kernel
theorem dX10_count_96 : decode cX10_count 96 = .ok (.aload_n 0, 1) := by decide +kernel
theorem dX10_count_97 : decode cX10_count 97 = .ok (.getfield 37, 3) := by decide +kernel
theorem dX10_count_100 : decode cX10_count 100 = .ok (.invokevirtual 124, 3) := by decide +kernel
theorem dX10_count_103 : decode cX10_count 103 = .ok (.ifCond .eq 7, 3) := by decide +kernel
theorem dX10_count_106 : decode cX10_count 106 = .ok (.iconst 0, 1) := by decide +kernel
theorem dX10_count_107 : decode cX10_count 107 = .ok (.goto 4, 3) := by decide +kernel
theorem dX10_count_110 : decode cX10_count 110 = .ok (.iconst 1, 1) := by decide +kernel
theorem dX10_count_111 : decode cX10_count 111 = .ok (.ireturn, 1) := by decide +kernel
theorem dX10_count_112 : decode cX10_count 112 = .ok (.aload_n 0, 1) := by decide +kernel
theorem dX10_count_113 : decode cX10_count 113 = .ok (.getfield 37, 3) := by decide +kernel
theorem dX10_count_116 : decode cX10_count 116 = .ok (.getfield 127, 3) := by decide +kernel
theorem dX10_count_119 : decode cX10_count 119 = .ok (.ireturn, 1) := by decide +kernel
theorem dX10_count_120 : decode cX10_count 120 = .ok (.aload_n 0, 1) := by decide +kernel
theorem dX10_count_121 : decode cX10_count 121 = .ok (.getfield 37, 3) := by decide +kernel
theorem dX10_count_124 : decode cX10_count 124 = .ok (.getfield 130, 3) := by decide +kernel
theorem dX10_count_127 : decode cX10_count 127 = .ok (.ireturn, 1) := by decide +kernel
theorem dX10_count_128 : decode cX10_count 128 = .ok (.aload_n 0, 1) := by decide +kernel
theorem dX10_count_129 : decode cX10_count 129 = .ok (.getfield 37, 3) := by decide +kernel
theorem dX10_count_132 : decode cX10_count 132 = .ok (.getfield 133, 3) := by decide +kernel
theorem dX10_count_135 : decode cX10_count 135 = .ok (.getfield 137, 3) := by decide +kernel
theorem dX10_count_138 : decode cX10_count 138 = .ok (.ireturn, 1) := by decide +kernel
theorem dX10_count_139 : decode cX10_count 139 = .ok (.aload_n 0, 1) := by decide +kernel
theorem dX10_count_140 : decode cX10_count 140 = .ok (.getfield 37, 3) := by decide +kernel
theorem dX10_count_143 : decode cX10_count 143 = .ok (.getfield 133, 3) := by decide +kernel
theorem dX10_count_146 : decode cX10_count 146 = .ok (.getfield 142, 3) := by decide +kernel
theorem dX10_count_149 : decode cX10_count 149 = .ok (.ireturn, 1) := by decide +kernel
theorem dX10_count_150 : decode cX10_count 150 = .ok (.aload_n 0, 1) := by decide +kernel
theorem dX10_count_151 : decode cX10_count 151 = .ok (.getfield 37, 3) := by decide +kernel
theorem dX10_count_154 : decode cX10_count 154 = .ok (.getfield 133, 3) := by decide +kernel
theorem dX10_count_157 : decode cX10_count 157 = .ok (.invokevirtual 145, 3) := by decide +kernel
theorem dX10_count_160 : decode cX10_count 160 = .ok (.ireturn, 1) := by decide +kernel
theorem dX10_count_161 : decode cX10_count 161 = .ok (.aload_n 0, 1) := by decide +kernel
theorem dX10_count_162 : decode cX10_count 162 = .ok (.getfield 37, 3) := by decide +kernel
theorem dX10_count_165 : decode cX10_count 165 = .ok (.getfield 148, 3) := by decide +kernel
theorem dX10_count_168 : decode cX10_count 168 = .ok (.ireturn, 1) := by decide +kernel
theorem dX10_count_169 : decode cX10_count 169 = .ok (.aload_n 0, 1) := by decide +kernel
theorem dX10_count_170 : decode cX10_count 170 = .ok (.getfield 37, 3) := by decide +kernel
theorem dX10_count_173 : decode cX10_count 173 = .ok (.getfield 151, 3) := by decide +kernel
theorem dX10_count_176 : decode cX10_count 176 = .ok (.ireturn, 1) := by decide +kernel
theorem dX10_count_177 : decode cX10_count 177 = .ok (.aload_n 0, 1) := by decide +kernel
theorem dX10_count_178 : decode cX10_count 178 = .ok (.getfield 28, 3) := by decide +kernel
theorem dX10_count_181 : decode cX10_count 181 = .ok (.getfield 154, 3) := by decide +kernel
theorem dX10_count_184 : decode cX10_count 184 = .ok (.ireturn, 1) := by decide +kernel
theorem dX10_count_185 : decode cX10_count 185 = .ok (.aload_n 0, 1) := by decide +kernel
theorem dX10_count_186 : decode cX10_count 186 = .ok (.getfield 37, 3) := by decide +kernel
theorem dX10_count_189 : decode cX10_count 189 = .ok (.getfield 157, 3) := by decide +kernel
theorem dX10_count_192 : decode cX10_count 192 = .ok (.ifCond .eq 7, 3) := by decide +kernel
theorem dX10_count_195 : decode cX10_count 195 = .ok (.iconst 1, 1) := by decide +kernel
theorem dX10_count_196 : decode cX10_count 196 = .ok (.goto 4, 3) := by decide +kernel
theorem dX10_count_199 : decode cX10_count 199 = .ok (.iconst 0, 1) := by decide +kernel
theorem dX10_count_200 : decode cX10_count 200 = .ok (.ireturn, 1) := by decide +kernel
theorem dX10_count_201 : decode cX10_count 201 = .ok (.aload_n 0, 1) := by decide +kernel
theorem dX10_count_202 : decode cX10_count 202 = .ok (.getfield 47, 3) := by decide +kernel
theorem dX10_count_205 : decode cX10_count 205 = .ok (.getfield 161, 3) := by decide +kernel
theorem dX10_count_208 : decode cX10_count 208 = .ok (.ireturn, 1) := by decide +kernel
theorem dX10_count_209 : decode cX10_count 209 = .ok (.new 78, 3) := by decide +kernel
theorem dX10_count_212 : decode cX10_count 212 = .ok (.dup, 1) := by decide +kernel
theorem dX10_count_213 : decode cX10_count 213 = .ok (.ldc 164, 2) := by decide +kernel
theorem dX10_count_215 : decode cX10_count 215 = .ok (.invokespecial 82, 3) := by decide +kernel
theorem dX10_count_218 : decode cX10_count 218 = .ok (.athrow, 1) := by decide +kernel
theorem dX10_outlet_0 : decode cX10_outlet 0 = .ok (.aload_n 0, 1) := by decide +kernel
theorem dX10_outlet_1 : decode cX10_outlet 1 = .ok (.iload_n 1, 1) := by decide +kernel
theorem dX10_outlet_2 : decode cX10_outlet 2 = .ok (.invokevirtual 166, 3) := by decide +kernel
theorem dX10_outlet_5 : decode cX10_outlet 5 = .ok (.aload_n 0, 1) := by decide +kernel
theorem dX10_outlet_6 : decode cX10_outlet 6 = .ok (.getfield 37, 3) := by decide +kernel
theorem dX10_outlet_9 : decode cX10_outlet 9 = .ok (.getfield 169, 3) := by decide +kernel
theorem dX10_outlet_12 : decode cX10_outlet 12 = .ok (.astore_n 3, 1) := by decide +kernel
theorem dX10_outlet_13 : decode cX10_outlet 13 = .ok (.iload_n 2, 1) := by decide +kernel
theorem dX10_outlet_14 : decode cX10_outlet 14 = .ok (.tableswitch 143 0 9 #[54, 64, 74, 84, 94, 101, 115, 122, 129, 136], 54) := by decide +kernel
theorem dX10_outlet_68 : decode cX10_outlet 68 = .ok (.aload_n 0, 1) := by decide +kernel
theorem dX10_outlet_69 : decode cX10_outlet 69 = .ok (.getfield 28, 3) := by decide +kernel
theorem dX10_outlet_72 : decode cX10_outlet 72 = .ok (.getfield 172, 3) := by decide +kernel
theorem dX10_outlet_75 : decode cX10_outlet 75 = .ok (.iload_n 1, 1) := by decide +kernel
theorem dX10_outlet_76 : decode cX10_outlet 76 = .ok (.iaload, 1) := by decide +kernel
theorem dX10_outlet_77 : decode cX10_outlet 77 = .ok (.ireturn, 1) := by decide +kernel
theorem dX10_outlet_78 : decode cX10_outlet 78 = .ok (.aload_n 0, 1) := by decide +kernel
theorem dX10_outlet_79 : decode cX10_outlet 79 = .ok (.getfield 28, 3) := by decide +kernel
theorem dX10_outlet_82 : decode cX10_outlet 82 = .ok (.getfield 176, 3) := by decide +kernel
theorem dX10_outlet_85 : decode cX10_outlet 85 = .ok (.iload_n 1, 1) := by decide +kernel
theorem dX10_outlet_86 : decode cX10_outlet 86 = .ok (.iaload, 1) := by decide +kernel
theorem dX10_outlet_87 : decode cX10_outlet 87 = .ok (.ireturn, 1) := by decide +kernel
theorem dX10_outlet_88 : decode cX10_outlet 88 = .ok (.aload_n 0, 1) := by decide +kernel
theorem dX10_outlet_89 : decode cX10_outlet 89 = .ok (.getfield 28, 3) := by decide +kernel
theorem dX10_outlet_92 : decode cX10_outlet 92 = .ok (.getfield 179, 3) := by decide +kernel
theorem dX10_outlet_95 : decode cX10_outlet 95 = .ok (.iload_n 1, 1) := by decide +kernel
theorem dX10_outlet_96 : decode cX10_outlet 96 = .ok (.iaload, 1) := by decide +kernel
theorem dX10_outlet_97 : decode cX10_outlet 97 = .ok (.ireturn, 1) := by decide +kernel
theorem dX10_outlet_98 : decode cX10_outlet 98 = .ok (.aload_n 0, 1) := by decide +kernel
theorem dX10_outlet_99 : decode cX10_outlet 99 = .ok (.getfield 28, 3) := by decide +kernel
theorem dX10_outlet_102 : decode cX10_outlet 102 = .ok (.getfield 182, 3) := by decide +kernel
theorem dX10_outlet_105 : decode cX10_outlet 105 = .ok (.iload_n 1, 1) := by decide +kernel
theorem dX10_outlet_106 : decode cX10_outlet 106 = .ok (.iaload, 1) := by decide +kernel
theorem dX10_outlet_107 : decode cX10_outlet 107 = .ok (.ireturn, 1) := by decide +kernel
theorem dX10_outlet_108 : decode cX10_outlet 108 = .ok (.aload_n 3, 1) := by decide +kernel
theorem dX10_outlet_109 : decode cX10_outlet 109 = .ok (.getfield 185, 3) := by decide +kernel
theorem dX10_outlet_112 : decode cX10_outlet 112 = .ok (.iload_n 1, 1) := by decide +kernel
theorem dX10_outlet_113 : decode cX10_outlet 113 = .ok (.iaload, 1) := by decide +kernel
theorem dX10_outlet_114 : decode cX10_outlet 114 = .ok (.ireturn, 1) := by decide +kernel
theorem dX10_outlet_115 : decode cX10_outlet 115 = .ok (.aload_n 3, 1) := by decide +kernel
theorem dX10_outlet_116 : decode cX10_outlet 116 = .ok (.iload_n 1, 1) := by decide +kernel
theorem dX10_outlet_117 : decode cX10_outlet 117 = .ok (.invokevirtual 190, 3) := by decide +kernel
theorem dX10_outlet_120 : decode cX10_outlet 120 = .ok (.ifCond .eq 7, 3) := by decide +kernel
theorem dX10_outlet_123 : decode cX10_outlet 123 = .ok (.iconst 1, 1) := by decide +kernel
theorem dX10_outlet_124 : decode cX10_outlet 124 = .ok (.goto 4, 3) := by decide +kernel
theorem dX10_outlet_127 : decode cX10_outlet 127 = .ok (.iconst 0, 1) := by decide +kernel
theorem dX10_outlet_128 : decode cX10_outlet 128 = .ok (.ireturn, 1) := by decide +kernel
theorem dX10_outlet_129 : decode cX10_outlet 129 = .ok (.aload_n 3, 1) := by decide +kernel
theorem dX10_outlet_130 : decode cX10_outlet 130 = .ok (.getfield 194, 3) := by decide +kernel
theorem dX10_outlet_133 : decode cX10_outlet 133 = .ok (.iload_n 1, 1) := by decide +kernel
theorem dX10_outlet_134 : decode cX10_outlet 134 = .ok (.iaload, 1) := by decide +kernel
theorem dX10_outlet_135 : decode cX10_outlet 135 = .ok (.ireturn, 1) := by decide +kernel
theorem dX10_outlet_136 : decode cX10_outlet 136 = .ok (.aload_n 3, 1) := by decide +kernel
theorem dX10_outlet_137 : decode cX10_outlet 137 = .ok (.getfield 197, 3) := by decide +kernel
theorem dX10_outlet_140 : decode cX10_outlet 140 = .ok (.iload_n 1, 1) := by decide +kernel
theorem dX10_outlet_141 : decode cX10_outlet 141 = .ok (.iaload, 1) := by decide +kernel
theorem dX10_outlet_142 : decode cX10_outlet 142 = .ok (.ireturn, 1) := by decide +kernel
theorem dX10_outlet_143 : decode cX10_outlet 143 = .ok (.aload_n 3, 1) := by decide +kernel
theorem dX10_outlet_144 : decode cX10_outlet 144 = .ok (.getfield 200, 3) := by decide +kernel
theorem dX10_outlet_147 : decode cX10_outlet 147 = .ok (.iload_n 1, 1) := by decide +kernel
theorem dX10_outlet_148 : decode cX10_outlet 148 = .ok (.iaload, 1) := by decide +kernel
theorem dX10_outlet_149 : decode cX10_outlet 149 = .ok (.ireturn, 1) := by decide +kernel
theorem dX10_outlet_150 : decode cX10_outlet 150 = .ok (.aload_n 3, 1) := by decide +kernel
theorem dX10_outlet_151 : decode cX10_outlet 151 = .ok (.getfield 203, 3) := by decide +kernel
theorem dX10_outlet_154 : decode cX10_outlet 154 = .ok (.iload_n 1, 1) := by decide +kernel
theorem dX10_outlet_155 : decode cX10_outlet 155 = .ok (.iaload, 1) := by decide +kernel
theorem dX10_outlet_156 : decode cX10_outlet 156 = .ok (.ireturn, 1) := by decide +kernel
theorem dX10_outlet_157 : decode cX10_outlet 157 = .ok (.new 78, 3) := by decide +kernel
theorem dX10_outlet_160 : decode cX10_outlet 160 = .ok (.dup, 1) := by decide +kernel
theorem dX10_outlet_161 : decode cX10_outlet 161 = .ok (.ldc 206, 2) := by decide +kernel
theorem dX10_outlet_163 : decode cX10_outlet 163 = .ok (.invokespecial 82, 3) := by decide +kernel
theorem dX10_outlet_166 : decode cX10_outlet 166 = .ok (.athrow, 1) := by decide +kernel
theorem dX10_known_0 : decode cX10_known 0 = .ok (.aload_n 0, 1) := by decide +kernel
theorem dX10_known_1 : decode cX10_known 1 = .ok (.iload_n 1, 1) := by decide +kernel
theorem dX10_known_2 : decode cX10_known 2 = .ok (.invokevirtual 166, 3) := by decide +kernel
theorem dX10_known_5 : decode cX10_known 5 = .ok (.aload_n 0, 1) := by decide +kernel
theorem dX10_known_6 : decode cX10_known 6 = .ok (.getfield 37, 3) := by decide +kernel
theorem dX10_known_9 : decode cX10_known 9 = .ok (.getfield 208, 3) := by decide +kernel
theorem dX10_known_12 : decode cX10_known 12 = .ok (.astore_n 3, 1) := by decide +kernel
theorem dX10_known_13 : decode cX10_known 13 = .ok (.iload_n 2, 1) := by decide +kernel
theorem dX10_known_14 : decode cX10_known 14 = .ok (.tableswitch 92 0 5 #[38, 45, 52, 59, 65, 75], 38) := by decide +kernel
theorem dX10_known_52 : decode cX10_known 52 = .ok (.aload_n 3, 1) := by decide +kernel
theorem dX10_known_53 : decode cX10_known 53 = .ok (.getfield 212, 3) := by decide +kernel
theorem dX10_known_56 : decode cX10_known 56 = .ok (.iload_n 1, 1) := by decide +kernel
theorem dX10_known_57 : decode cX10_known 57 = .ok (.iaload, 1) := by decide +kernel
theorem dX10_known_58 : decode cX10_known 58 = .ok (.ireturn, 1) := by decide +kernel
theorem dX10_known_59 : decode cX10_known 59 = .ok (.aload_n 3, 1) := by decide +kernel
theorem dX10_known_60 : decode cX10_known 60 = .ok (.getfield 217, 3) := by decide +kernel
theorem dX10_known_63 : decode cX10_known 63 = .ok (.iload_n 1, 1) := by decide +kernel
theorem dX10_known_64 : decode cX10_known 64 = .ok (.iaload, 1) := by decide +kernel
theorem dX10_known_65 : decode cX10_known 65 = .ok (.ireturn, 1) := by decide +kernel
theorem dX10_known_66 : decode cX10_known 66 = .ok (.aload_n 3, 1) := by decide +kernel
theorem dX10_known_67 : decode cX10_known 67 = .ok (.getfield 220, 3) := by decide +kernel
theorem dX10_known_70 : decode cX10_known 70 = .ok (.iload_n 1, 1) := by decide +kernel
theorem dX10_known_71 : decode cX10_known 71 = .ok (.iaload, 1) := by decide +kernel
theorem dX10_known_72 : decode cX10_known 72 = .ok (.ireturn, 1) := by decide +kernel
theorem dX10_known_73 : decode cX10_known 73 = .ok (.aload_n 3, 1) := by decide +kernel
theorem dX10_known_74 : decode cX10_known 74 = .ok (.iload_n 1, 1) := by decide +kernel
theorem dX10_known_75 : decode cX10_known 75 = .ok (.invokevirtual 223, 3) := by decide +kernel
theorem dX10_known_78 : decode cX10_known 78 = .ok (.ireturn, 1) := by decide +kernel
theorem dX10_known_79 : decode cX10_known 79 = .ok (.aload_n 3, 1) := by decide +kernel
theorem dX10_known_80 : decode cX10_known 80 = .ok (.getfield 227, 3) := by decide +kernel
theorem dX10_known_83 : decode cX10_known 83 = .ok (.getfield 231, 3) := by decide +kernel
theorem dX10_known_86 : decode cX10_known 86 = .ok (.iload_n 1, 1) := by decide +kernel
theorem dX10_known_87 : decode cX10_known 87 = .ok (.iaload, 1) := by decide +kernel
theorem dX10_known_88 : decode cX10_known 88 = .ok (.ireturn, 1) := by decide +kernel
theorem dX10_known_89 : decode cX10_known 89 = .ok (.aload_n 3, 1) := by decide +kernel
theorem dX10_known_90 : decode cX10_known 90 = .ok (.getfield 236, 3) := by decide +kernel
theorem dX10_known_93 : decode cX10_known 93 = .ok (.iload_n 1, 1) := by decide +kernel
theorem dX10_known_94 : decode cX10_known 94 = .ok (.invokestatic 239, 3) := by decide +kernel
theorem dX10_known_97 : decode cX10_known 97 = .ok (.ifCond .eq 7, 3) := by decide +kernel
theorem dX10_known_100 : decode cX10_known 100 = .ok (.iconst 1, 1) := by decide +kernel
theorem dX10_known_101 : decode cX10_known 101 = .ok (.goto 4, 3) := by decide +kernel
theorem dX10_known_104 : decode cX10_known 104 = .ok (.iconst 0, 1) := by decide +kernel
theorem dX10_known_105 : decode cX10_known 105 = .ok (.ireturn, 1) := by decide +kernel
theorem dX10_known_106 : decode cX10_known 106 = .ok (.new 78, 3) := by decide +kernel
theorem dX10_known_109 : decode cX10_known 109 = .ok (.dup, 1) := by decide +kernel
theorem dX10_known_110 : decode cX10_known 110 = .ok (.ldc 206, 2) := by decide +kernel
theorem dX10_known_112 : decode cX10_known 112 = .ok (.invokespecial 82, 3) := by decide +kernel
theorem dX10_known_115 : decode cX10_known 115 = .ok (.athrow, 1) := by decide +kernel
theorem dX10_needs_0 : decode cX10_needs 0 = .ok (.aload_n 0, 1) := by decide +kernel
theorem dX10_needs_1 : decode cX10_needs 1 = .ok (.iload_n 1, 1) := by decide +kernel
theorem dX10_needs_2 : decode cX10_needs 2 = .ok (.invokevirtual 166, 3) := by decide +kernel
theorem dX10_needs_5 : decode cX10_needs 5 = .ok (.iload_n 2, 1) := by decide +kernel
theorem dX10_needs_6 : decode cX10_needs 6 = .ok (.ifCond .eq 14, 3) := by decide +kernel
theorem dX10_needs_9 : decode cX10_needs 9 = .ok (.aload_n 0, 1) := by decide +kernel
theorem dX10_needs_10 : decode cX10_needs 10 = .ok (.getfield 28, 3) := by decide +kernel
theorem dX10_needs_13 : decode cX10_needs 13 = .ok (.iload_n 1, 1) := by decide +kernel
theorem dX10_needs_14 : decode cX10_needs 14 = .ok (.invokevirtual 243, 3) := by decide +kernel
theorem dX10_needs_17 : decode cX10_needs 17 = .ok (.goto 12, 3) := by decide +kernel
theorem dX10_needs_20 : decode cX10_needs 20 = .ok (.aload_n 0, 1) := by decide +kernel
theorem dX10_needs_21 : decode cX10_needs 21 = .ok (.getfield 28, 3) := by decide +kernel
theorem dX10_needs_24 : decode cX10_needs 24 = .ok (.getfield 246, 3) := by decide +kernel
theorem dX10_needs_27 : decode cX10_needs 27 = .ok (.iload_n 1, 1) := by decide +kernel
theorem dX10_needs_28 : decode cX10_needs 28 = .ok (.iaload, 1) := by decide +kernel
theorem dX10_needs_29 : decode cX10_needs 29 = .ok (.ireturn, 1) := by decide +kernel
theorem dX10_outletsWith_0 : decode cX10_outletsWith 0 = .ok (.iload_n 1, 1) := by decide +kernel
theorem dX10_outletsWith_1 : decode cX10_outletsWith 1 = .ok (.iconst 0, 1) := by decide +kernel
theorem dX10_outletsWith_2 : decode cX10_outletsWith 2 = .ok (.iconst 3, 1) := by decide +kernel
theorem dX10_outletsWith_3 : decode cX10_outletsWith 3 = .ok (.invokestatic 249, 3) := by decide +kernel
theorem dX10_outletsWith_6 : decode cX10_outletsWith 6 = .ok (.iload_n 2, 1) := by decide +kernel
theorem dX10_outletsWith_7 : decode cX10_outletsWith 7 = .ok (.ifCond .eq 17, 3) := by decide +kernel
theorem dX10_outletsWith_10 : decode cX10_outletsWith 10 = .ok (.aload_n 0, 1) := by decide +kernel
theorem dX10_outletsWith_11 : decode cX10_outletsWith 11 = .ok (.getfield 37, 3) := by decide +kernel
theorem dX10_outletsWith_14 : decode cX10_outletsWith 14 = .ok (.getfield 208, 3) := by decide +kernel
theorem dX10_outletsWith_17 : decode cX10_outletsWith 17 = .ok (.iload_n 1, 1) := by decide +kernel
theorem dX10_outletsWith_18 : decode cX10_outletsWith 18 = .ok (.invokevirtual 253, 3) := by decide +kernel
theorem dX10_outletsWith_21 : decode cX10_outletsWith 21 = .ok (.goto 14, 3) := by decide +kernel
theorem dX10_outletsWith_24 : decode cX10_outletsWith 24 = .ok (.aload_n 0, 1) := by decide +kernel
theorem dX10_outletsWith_25 : decode cX10_outletsWith 25 = .ok (.getfield 37, 3) := by decide +kernel
theorem dX10_outletsWith_28 : decode cX10_outletsWith 28 = .ok (.getfield 169, 3) := by decide +kernel
theorem dX10_outletsWith_31 : decode cX10_outletsWith 31 = .ok (.iload_n 1, 1) := by decide +kernel
theorem dX10_outletsWith_32 : decode cX10_outletsWith 32 = .ok (.invokevirtual 256, 3) := by decide +kernel
theorem dX10_outletsWith_35 : decode cX10_outletsWith 35 = .ok (.ireturn, 1) := by decide +kernel
theorem dX10_rights_0 : decode cX10_rights 0 = .ok (.aload_n 0, 1) := by decide +kernel
theorem dX10_rights_1 : decode cX10_rights 1 = .ok (.getfield 37, 3) := by decide +kernel
theorem dX10_rights_4 : decode cX10_rights 4 = .ok (.invokevirtual 259, 3) := by decide +kernel
theorem dX10_rights_7 : decode cX10_rights 7 = .ok (.ireturn, 1) := by decide +kernel
theorem dX10_load__0 : decode cX10_load_ 0 = .ok (.iload_n 1, 1) := by decide +kernel
theorem dX10_load__1 : decode cX10_load_ 1 = .ok (.tableswitch 54 0 2 #[27, 35, 43], 27) := by decide +kernel
theorem dX10_load__28 : decode cX10_load_ 28 = .ok (.aload_n 0, 1) := by decide +kernel
theorem dX10_load__29 : decode cX10_load_ 29 = .ok (.getfield 37, 3) := by decide +kernel
theorem dX10_load__32 : decode cX10_load_ 32 = .ok (.invokevirtual 262, 3) := by decide +kernel
theorem dX10_load__35 : decode cX10_load_ 35 = .ok (.ireturn, 1) := by decide +kernel
theorem dX10_load__36 : decode cX10_load_ 36 = .ok (.aload_n 0, 1) := by decide +kernel
theorem dX10_load__37 : decode cX10_load_ 37 = .ok (.getfield 37, 3) := by decide +kernel
theorem dX10_load__40 : decode cX10_load_ 40 = .ok (.getfield 265, 3) := by decide +kernel
theorem dX10_load__43 : decode cX10_load_ 43 = .ok (.ireturn, 1) := by decide +kernel
theorem dX10_load__44 : decode cX10_load_ 44 = .ok (.aload_n 0, 1) := by decide +kernel
theorem dX10_load__45 : decode cX10_load_ 45 = .ok (.getfield 37, 3) := by decide +kernel
theorem dX10_load__48 : decode cX10_load_ 48 = .ok (.getfield 208, 3) := by decide +kernel
theorem dX10_load__51 : decode cX10_load_ 51 = .ok (.invokevirtual 267, 3) := by decide +kernel
theorem dX10_load__54 : decode cX10_load_ 54 = .ok (.ireturn, 1) := by decide +kernel
theorem dX10_load__55 : decode cX10_load_ 55 = .ok (.new 78, 3) := by decide +kernel
theorem dX10_load__58 : decode cX10_load_ 58 = .ok (.dup, 1) := by decide +kernel
theorem dX10_load__59 : decode cX10_load_ 59 = .ok (.ldc_w 270, 3) := by decide +kernel
theorem dX10_load__62 : decode cX10_load_ 62 = .ok (.invokespecial 82, 3) := by decide +kernel
theorem dX10_load__65 : decode cX10_load_ 65 = .ok (.athrow, 1) := by decide +kernel
theorem dX10_strain_0 : decode cX10_strain 0 = .ok (.aload_n 0, 1) := by decide +kernel
theorem dX10_strain_1 : decode cX10_strain 1 = .ok (.getfield 37, 3) := by decide +kernel
theorem dX10_strain_4 : decode cX10_strain 4 = .ok (.getfield 148, 3) := by decide +kernel
theorem dX10_strain_7 : decode cX10_strain 7 = .ok (.iconst 1, 1) := by decide +kernel
theorem dX10_strain_8 : decode cX10_strain 8 = .ok (.if_icmp .ge 7, 3) := by decide +kernel
theorem dX10_strain_11 : decode cX10_strain 11 = .ok (.dconst 0, 1) := by decide +kernel
theorem dX10_strain_12 : decode cX10_strain 12 = .ok (.goto 20, 3) := by decide +kernel
theorem dX10_strain_15 : decode cX10_strain 15 = .ok (.aload_n 0, 1) := by decide +kernel
theorem dX10_strain_16 : decode cX10_strain 16 = .ok (.getfield 37, 3) := by decide +kernel
theorem dX10_strain_19 : decode cX10_strain 19 = .ok (.getfield 265, 3) := by decide +kernel
theorem dX10_strain_22 : decode cX10_strain 22 = .ok (.i2d, 1) := by decide +kernel
theorem dX10_strain_23 : decode cX10_strain 23 = .ok (.aload_n 0, 1) := by decide +kernel
theorem dX10_strain_24 : decode cX10_strain 24 = .ok (.getfield 37, 3) := by decide +kernel
theorem dX10_strain_27 : decode cX10_strain 27 = .ok (.getfield 148, 3) := by decide +kernel
theorem dX10_strain_30 : decode cX10_strain 30 = .ok (.i2d, 1) := by decide +kernel
theorem dX10_strain_31 : decode cX10_strain 31 = .ok (.ddiv, 1) := by decide +kernel
theorem dX10_strain_32 : decode cX10_strain 32 = .ok (.dreturn, 1) := by decide +kernel
theorem dX10_message_0 : decode cX10_message 0 = .ok (.aload_n 0, 1) := by decide +kernel
theorem dX10_message_1 : decode cX10_message 1 = .ok (.getfield 37, 3) := by decide +kernel
theorem dX10_message_4 : decode cX10_message 4 = .ok (.getfield 133, 3) := by decide +kernel
theorem dX10_message_7 : decode cX10_message 7 = .ok (.astore_n 3, 1) := by decide +kernel
theorem dX10_message_8 : decode cX10_message 8 = .ok (.iload_n 1, 1) := by decide +kernel
theorem dX10_message_9 : decode cX10_message 9 = .ok (.ifCond .lt 11, 3) := by decide +kernel
theorem dX10_message_12 : decode cX10_message 12 = .ok (.iload_n 1, 1) := by decide +kernel
theorem dX10_message_13 : decode cX10_message 13 = .ok (.aload_n 3, 1) := by decide +kernel
theorem dX10_message_14 : decode cX10_message 14 = .ok (.getfield 137, 3) := by decide +kernel
theorem dX10_message_17 : decode cX10_message 17 = .ok (.if_icmp .lt 14, 3) := by decide +kernel
theorem dX10_message_20 : decode cX10_message 20 = .ok (.new 69, 3) := by decide +kernel
theorem dX10_message_23 : decode cX10_message 23 = .ok (.dup, 1) := by decide +kernel
theorem dX10_message_24 : decode cX10_message 24 = .ok (.ldc_w 272, 3) := by decide +kernel
theorem dX10_message_27 : decode cX10_message 27 = .ok (.invokespecial 73, 3) := by decide +kernel
theorem dX10_message_30 : decode cX10_message 30 = .ok (.athrow, 1) := by decide +kernel
theorem dX10_message_31 : decode cX10_message 31 = .ok (.iload_n 2, 1) := by decide +kernel
theorem dX10_message_32 : decode cX10_message 32 = .ok (.tableswitch 49 0 2 #[28, 35, 42], 28) := by decide +kernel
theorem dX10_message_60 : decode cX10_message 60 = .ok (.aload_n 3, 1) := by decide +kernel
theorem dX10_message_61 : decode cX10_message 61 = .ok (.getfield 274, 3) := by decide +kernel
theorem dX10_message_64 : decode cX10_message 64 = .ok (.iload_n 1, 1) := by decide +kernel
theorem dX10_message_65 : decode cX10_message 65 = .ok (.iaload, 1) := by decide +kernel
theorem dX10_message_66 : decode cX10_message 66 = .ok (.ireturn, 1) := by decide +kernel
theorem dX10_message_67 : decode cX10_message 67 = .ok (.aload_n 3, 1) := by decide +kernel
theorem dX10_message_68 : decode cX10_message 68 = .ok (.getfield 277, 3) := by decide +kernel
theorem dX10_message_71 : decode cX10_message 71 = .ok (.iload_n 1, 1) := by decide +kernel
theorem dX10_message_72 : decode cX10_message 72 = .ok (.iaload, 1) := by decide +kernel
theorem dX10_message_73 : decode cX10_message 73 = .ok (.ireturn, 1) := by decide +kernel
theorem dX10_message_74 : decode cX10_message 74 = .ok (.aload_n 3, 1) := by decide +kernel
theorem dX10_message_75 : decode cX10_message 75 = .ok (.getfield 280, 3) := by decide +kernel
theorem dX10_message_78 : decode cX10_message 78 = .ok (.iload_n 1, 1) := by decide +kernel
theorem dX10_message_79 : decode cX10_message 79 = .ok (.iaload, 1) := by decide +kernel
theorem dX10_message_80 : decode cX10_message 80 = .ok (.ireturn, 1) := by decide +kernel
theorem dX10_message_81 : decode cX10_message 81 = .ok (.new 78, 3) := by decide +kernel
theorem dX10_message_84 : decode cX10_message 84 = .ok (.dup, 1) := by decide +kernel
theorem dX10_message_85 : decode cX10_message 85 = .ok (.ldc 206, 2) := by decide +kernel
theorem dX10_message_87 : decode cX10_message 87 = .ok (.invokespecial 82, 3) := by decide +kernel
theorem dX10_message_90 : decode cX10_message 90 = .ok (.athrow, 1) := by decide +kernel
theorem dX10_traffic_0 : decode cX10_traffic 0 = .ok (.iload_n 1, 1) := by decide +kernel
theorem dX10_traffic_1 : decode cX10_traffic 1 = .ok (.iconst 0, 1) := by decide +kernel
theorem dX10_traffic_2 : decode cX10_traffic 2 = .ok (.iconst 5, 1) := by decide +kernel
theorem dX10_traffic_3 : decode cX10_traffic 3 = .ok (.invokestatic 249, 3) := by decide +kernel
theorem dX10_traffic_6 : decode cX10_traffic 6 = .ok (.iload_n 2, 1) := by decide +kernel
theorem dX10_traffic_7 : decode cX10_traffic 7 = .ok (.ifCond .eq 18, 3) := by decide +kernel
theorem dX10_traffic_10 : decode cX10_traffic 10 = .ok (.aload_n 0, 1) := by decide +kernel
theorem dX10_traffic_11 : decode cX10_traffic 11 = .ok (.getfield 37, 3) := by decide +kernel
theorem dX10_traffic_14 : decode cX10_traffic 14 = .ok (.getfield 133, 3) := by decide +kernel
theorem dX10_traffic_17 : decode cX10_traffic 17 = .ok (.getfield 283, 3) := by decide +kernel
theorem dX10_traffic_20 : decode cX10_traffic 20 = .ok (.iload_n 1, 1) := by decide +kernel
theorem dX10_traffic_21 : decode cX10_traffic 21 = .ok (.iaload, 1) := by decide +kernel
theorem dX10_traffic_22 : decode cX10_traffic 22 = .ok (.goto 15, 3) := by decide +kernel
theorem dX10_traffic_25 : decode cX10_traffic 25 = .ok (.aload_n 0, 1) := by decide +kernel
theorem dX10_traffic_26 : decode cX10_traffic 26 = .ok (.getfield 37, 3) := by decide +kernel
theorem dX10_traffic_29 : decode cX10_traffic 29 = .ok (.getfield 133, 3) := by decide +kernel
theorem dX10_traffic_32 : decode cX10_traffic 32 = .ok (.getfield 286, 3) := by decide +kernel
theorem dX10_traffic_35 : decode cX10_traffic 35 = .ok (.iload_n 1, 1) := by decide +kernel
theorem dX10_traffic_36 : decode cX10_traffic 36 = .ok (.iaload, 1) := by decide +kernel
theorem dX10_traffic_37 : decode cX10_traffic 37 = .ok (.ireturn, 1) := by decide +kernel
theorem dX10_learned_0 : decode cX10_learned 0 = .ok (.aload_n 0, 1) := by decide +kernel
theorem dX10_learned_1 : decode cX10_learned 1 = .ok (.getfield 37, 3) := by decide +kernel
theorem dX10_learned_4 : decode cX10_learned 4 = .ok (.getfield 208, 3) := by decide +kernel
theorem dX10_learned_7 : decode cX10_learned 7 = .ok (.getfield 227, 3) := by decide +kernel
theorem dX10_learned_10 : decode cX10_learned 10 = .ok (.astore_n 2, 1) := by decide +kernel
theorem dX10_learned_11 : decode cX10_learned 11 = .ok (.iload_n 1, 1) := by decide +kernel
theorem dX10_learned_12 : decode cX10_learned 12 = .ok (.ifCond .lt 11, 3) := by decide +kernel
theorem dX10_learned_15 : decode cX10_learned 15 = .ok (.iload_n 1, 1) := by decide +kernel
theorem dX10_learned_16 : decode cX10_learned 16 = .ok (.aload_n 2, 1) := by decide +kernel
theorem dX10_learned_17 : decode cX10_learned 17 = .ok (.getfield 289, 3) := by decide +kernel
theorem dX10_learned_20 : decode cX10_learned 20 = .ok (.if_icmp .lt 14, 3) := by decide +kernel
theorem dX10_learned_23 : decode cX10_learned 23 = .ok (.new 69, 3) := by decide +kernel
theorem dX10_learned_26 : decode cX10_learned 26 = .ok (.dup, 1) := by decide +kernel
theorem dX10_learned_27 : decode cX10_learned 27 = .ok (.ldc_w 292, 3) := by decide +kernel
theorem dX10_learned_30 : decode cX10_learned 30 = .ok (.invokespecial 73, 3) := by decide +kernel
theorem dX10_learned_33 : decode cX10_learned 33 = .ok (.athrow, 1) := by decide +kernel
theorem dX10_learned_34 : decode cX10_learned 34 = .ok (.aload_n 2, 1) := by decide +kernel
theorem dX10_learned_35 : decode cX10_learned 35 = .ok (.getfield 294, 3) := by decide +kernel
theorem dX10_learned_38 : decode cX10_learned 38 = .ok (.iload_n 1, 1) := by decide +kernel
theorem dX10_learned_39 : decode cX10_learned 39 = .ok (.iaload, 1) := by decide +kernel
theorem dX10_learned_40 : decode cX10_learned 40 = .ok (.ireturn, 1) := by decide +kernel
theorem dX10_grants_0 : decode cX10_grants 0 = .ok (.aload_n 0, 1) := by decide +kernel
theorem dX10_grants_1 : decode cX10_grants 1 = .ok (.getfield 37, 3) := by decide +kernel
theorem dX10_grants_4 : decode cX10_grants 4 = .ok (.invokevirtual 295, 3) := by decide +kernel
theorem dX10_grants_7 : decode cX10_grants 7 = .ok (.ireturn, 1) := by decide +kernel
theorem dX10_why_0 : decode cX10_why 0 = .ok (.aload_n 0, 1) := by decide +kernel
theorem dX10_why_1 : decode cX10_why 1 = .ok (.iload_n 1, 1) := by decide +kernel
theorem dX10_why_2 : decode cX10_why 2 = .ok (.invokevirtual 166, 3) := by decide +kernel
theorem dX10_why_5 : decode cX10_why 5 = .ok (.aload_n 0, 1) := by decide +kernel
theorem dX10_why_6 : decode cX10_why 6 = .ok (.getfield 37, 3) := by decide +kernel
theorem dX10_why_9 : decode cX10_why 9 = .ok (.iload_n 1, 1) := by decide +kernel
theorem dX10_why_10 : decode cX10_why 10 = .ok (.invokevirtual 298, 3) := by decide +kernel
theorem dX10_why_13 : decode cX10_why 13 = .ok (.ireturn, 1) := by decide +kernel
theorem dX10_runsIn_0 : decode cX10_runsIn 0 = .ok (.aload_n 0, 1) := by decide +kernel
theorem dX10_runsIn_1 : decode cX10_runsIn 1 = .ok (.iload_n 1, 1) := by decide +kernel
theorem dX10_runsIn_2 : decode cX10_runsIn 2 = .ok (.invokevirtual 166, 3) := by decide +kernel
theorem dX10_runsIn_5 : decode cX10_runsIn 5 = .ok (.aload_n 0, 1) := by decide +kernel
theorem dX10_runsIn_6 : decode cX10_runsIn 6 = .ok (.getfield 37, 3) := by decide +kernel
theorem dX10_runsIn_9 : decode cX10_runsIn 9 = .ok (.aload_n 0, 1) := by decide +kernel
theorem dX10_runsIn_10 : decode cX10_runsIn 10 = .ok (.getfield 41, 3) := by decide +kernel
theorem dX10_runsIn_13 : decode cX10_runsIn 13 = .ok (.invokestatic 301, 3) := by decide +kernel
theorem dX10_runsIn_16 : decode cX10_runsIn 16 = .ok (.aload_n 0, 1) := by decide +kernel
theorem dX10_runsIn_17 : decode cX10_runsIn 17 = .ok (.iconst 1, 1) := by decide +kernel
theorem dX10_runsIn_18 : decode cX10_runsIn 18 = .ok (.iload_n 1, 1) := by decide +kernel
theorem dX10_runsIn_19 : decode cX10_runsIn 19 = .ok (.ishl, 1) := by decide +kernel
theorem dX10_runsIn_20 : decode cX10_runsIn 20 = .ok (.invokevirtual 305, 3) := by decide +kernel
theorem dX10_runsIn_23 : decode cX10_runsIn 23 = .ok (.ireturn, 1) := by decide +kernel
theorem dX10_allIn_0 : decode cX10_allIn 0 = .ok (.iload_n 1, 1) := by decide +kernel
theorem dX10_allIn_1 : decode cX10_allIn 1 = .ok (.iconst 0, 1) := by decide +kernel
theorem dX10_allIn_2 : decode cX10_allIn 2 = .ok (.iconst 3, 1) := by decide +kernel
theorem dX10_allIn_3 : decode cX10_allIn 3 = .ok (.invokestatic 249, 3) := by decide +kernel
theorem dX10_allIn_6 : decode cX10_allIn 6 = .ok (.aload_n 0, 1) := by decide +kernel
theorem dX10_allIn_7 : decode cX10_allIn 7 = .ok (.getfield 37, 3) := by decide +kernel
theorem dX10_allIn_10 : decode cX10_allIn 10 = .ok (.aload_n 0, 1) := by decide +kernel
theorem dX10_allIn_11 : decode cX10_allIn 11 = .ok (.getfield 41, 3) := by decide +kernel
theorem dX10_allIn_14 : decode cX10_allIn 14 = .ok (.invokestatic 301, 3) := by decide +kernel
theorem dX10_allIn_17 : decode cX10_allIn 17 = .ok (.iload_n 1, 1) := by decide +kernel
theorem dX10_allIn_18 : decode cX10_allIn 18 = .ok (.iconst 1, 1) := by decide +kernel
theorem dX10_allIn_19 : decode cX10_allIn 19 = .ok (.if_icmp .ne 17, 3) := by decide +kernel
theorem dX10_allIn_22 : decode cX10_allIn 22 = .ok (.aload_n 0, 1) := by decide +kernel
theorem dX10_allIn_23 : decode cX10_allIn 23 = .ok (.getfield 41, 3) := by decide +kernel
theorem dX10_allIn_26 : decode cX10_allIn 26 = .ok (.getfield 133, 3) := by decide +kernel
theorem dX10_allIn_29 : decode cX10_allIn 29 = .ok (.iconst 1, 1) := by decide +kernel
theorem dX10_allIn_30 : decode cX10_allIn 30 = .ok (.putfield 308, 3) := by decide +kernel
theorem dX10_allIn_33 : decode cX10_allIn 33 = .ok (.goto 48, 3) := by decide +kernel
theorem dX10_allIn_36 : decode cX10_allIn 36 = .ok (.iload_n 1, 1) := by decide +kernel
theorem dX10_allIn_37 : decode cX10_allIn 37 = .ok (.iconst 2, 1) := by decide +kernel
theorem dX10_allIn_38 : decode cX10_allIn 38 = .ok (.if_icmp .ne 28, 3) := by decide +kernel
theorem dX10_allIn_41 : decode cX10_allIn 41 = .ok (.aload_n 0, 1) := by decide +kernel
theorem dX10_allIn_42 : decode cX10_allIn 42 = .ok (.getfield 41, 3) := by decide +kernel
theorem dX10_allIn_45 : decode cX10_allIn 45 = .ok (.aload_n 0, 1) := by decide +kernel
theorem dX10_allIn_46 : decode cX10_allIn 46 = .ok (.getfield 41, 3) := by decide +kernel
theorem dX10_allIn_49 : decode cX10_allIn 49 = .ok (.getfield 157, 3) := by decide +kernel
theorem dX10_allIn_52 : decode cX10_allIn 52 = .ok (.ifCond .ne 7, 3) := by decide +kernel
theorem dX10_allIn_55 : decode cX10_allIn 55 = .ok (.iconst 1, 1) := by decide +kernel
theorem dX10_allIn_56 : decode cX10_allIn 56 = .ok (.goto 4, 3) := by decide +kernel
theorem dX10_allIn_59 : decode cX10_allIn 59 = .ok (.iconst 0, 1) := by decide +kernel
theorem dX10_allIn_60 : decode cX10_allIn 60 = .ok (.putfield 157, 3) := by decide +kernel
theorem dX10_allIn_63 : decode cX10_allIn 63 = .ok (.goto 18, 3) := by decide +kernel
theorem dX10_allIn_66 : decode cX10_allIn 66 = .ok (.iload_n 1, 1) := by decide +kernel
theorem dX10_allIn_67 : decode cX10_allIn 67 = .ok (.iconst 3, 1) := by decide +kernel
theorem dX10_allIn_68 : decode cX10_allIn 68 = .ok (.if_icmp .ne 13, 3) := by decide +kernel
theorem dX10_allIn_71 : decode cX10_allIn 71 = .ok (.aload_n 0, 1) := by decide +kernel
theorem dX10_allIn_72 : decode cX10_allIn 72 = .ok (.getfield 41, 3) := by decide +kernel
theorem dX10_allIn_75 : decode cX10_allIn 75 = .ok (.getfield 208, 3) := by decide +kernel
theorem dX10_allIn_78 : decode cX10_allIn 78 = .ok (.invokevirtual 311, 3) := by decide +kernel
theorem dX10_allIn_81 : decode cX10_allIn 81 = .ok (.aload_n 0, 1) := by decide +kernel
theorem dX10_allIn_82 : decode cX10_allIn 82 = .ok (.aload_n 0, 1) := by decide +kernel
theorem dX10_allIn_83 : decode cX10_allIn 83 = .ok (.getfield 41, 3) := by decide +kernel
theorem dX10_allIn_86 : decode cX10_allIn 86 = .ok (.invokevirtual 259, 3) := by decide +kernel
theorem dX10_allIn_89 : decode cX10_allIn 89 = .ok (.invokevirtual 305, 3) := by decide +kernel
theorem dX10_allIn_92 : decode cX10_allIn 92 = .ok (.ireturn, 1) := by decide +kernel
theorem dX10_peakIn_0 : decode cX10_peakIn 0 = .ok (.iload_n 1, 1) := by decide +kernel
theorem dX10_peakIn_1 : decode cX10_peakIn 1 = .ok (.iconst 1, 1) := by decide +kernel
theorem dX10_peakIn_2 : decode cX10_peakIn 2 = .ok (.sipush 500, 3) := by decide +kernel
theorem dX10_peakIn_5 : decode cX10_peakIn 5 = .ok (.invokestatic 249, 3) := by decide +kernel
theorem dX10_peakIn_8 : decode cX10_peakIn 8 = .ok (.iload_n 2, 1) := by decide +kernel
theorem dX10_peakIn_9 : decode cX10_peakIn 9 = .ok (.iconst 1, 1) := by decide +kernel
theorem dX10_peakIn_10 : decode cX10_peakIn 10 = .ok (.sipush 9999, 3) := by decide +kernel
theorem dX10_peakIn_13 : decode cX10_peakIn 13 = .ok (.invokestatic 249, 3) := by decide +kernel
theorem dX10_peakIn_16 : decode cX10_peakIn 16 = .ok (.aload_n 0, 1) := by decide +kernel
theorem dX10_peakIn_17 : decode cX10_peakIn 17 = .ok (.getfield 37, 3) := by decide +kernel
theorem dX10_peakIn_20 : decode cX10_peakIn 20 = .ok (.aload_n 0, 1) := by decide +kernel
theorem dX10_peakIn_21 : decode cX10_peakIn 21 = .ok (.getfield 41, 3) := by decide +kernel
theorem dX10_peakIn_24 : decode cX10_peakIn 24 = .ok (.invokestatic 301, 3) := by decide +kernel
theorem dX10_peakIn_27 : decode cX10_peakIn 27 = .ok (.aload_n 0, 1) := by decide +kernel
theorem dX10_peakIn_28 : decode cX10_peakIn 28 = .ok (.getfield 41, 3) := by decide +kernel
theorem dX10_peakIn_31 : decode cX10_peakIn 31 = .ok (.iload_n 2, 1) := by decide +kernel
theorem dX10_peakIn_32 : decode cX10_peakIn 32 = .ok (.putfield 148, 3) := by decide +kernel
theorem dX10_peakIn_35 : decode cX10_peakIn 35 = .ok (.aload_n 0, 1) := by decide +kernel
theorem dX10_peakIn_36 : decode cX10_peakIn 36 = .ok (.getfield 41, 3) := by decide +kernel
theorem dX10_peakIn_39 : decode cX10_peakIn 39 = .ok (.iconst 0, 1) := by decide +kernel
theorem dX10_peakIn_40 : decode cX10_peakIn 40 = .ok (.putfield 265, 3) := by decide +kernel
theorem dX10_peakIn_43 : decode cX10_peakIn 43 = .ok (.aload_n 0, 1) := by decide +kernel
theorem dX10_peakIn_44 : decode cX10_peakIn 44 = .ok (.getfield 41, 3) := by decide +kernel
theorem dX10_peakIn_47 : decode cX10_peakIn 47 = .ok (.iload_n 1, 1) := by decide +kernel
theorem dX10_peakIn_48 : decode cX10_peakIn 48 = .ok (.invokevirtual 314, 3) := by decide +kernel
theorem dX10_peakIn_51 : decode cX10_peakIn 51 = .ok (.aload_n 0, 1) := by decide +kernel
theorem dX10_peakIn_52 : decode cX10_peakIn 52 = .ok (.getfield 41, 3) := by decide +kernel
theorem dX10_peakIn_55 : decode cX10_peakIn 55 = .ok (.getfield 265, 3) := by decide +kernel
theorem dX10_peakIn_58 : decode cX10_peakIn 58 = .ok (.ireturn, 1) := by decide +kernel
theorem dX10_sentIn_0 : decode cX10_sentIn 0 = .ok (.iload_n 1, 1) := by decide +kernel
theorem dX10_sentIn_1 : decode cX10_sentIn 1 = .ok (.iconst 1, 1) := by decide +kernel
theorem dX10_sentIn_2 : decode cX10_sentIn 2 = .ok (.sipush 500, 3) := by decide +kernel
theorem dX10_sentIn_5 : decode cX10_sentIn 5 = .ok (.invokestatic 249, 3) := by decide +kernel
theorem dX10_sentIn_8 : decode cX10_sentIn 8 = .ok (.iload_n 2, 1) := by decide +kernel
theorem dX10_sentIn_9 : decode cX10_sentIn 9 = .ok (.iconst 1, 1) := by decide +kernel
theorem dX10_sentIn_10 : decode cX10_sentIn 10 = .ok (.bipush 20, 2) := by decide +kernel
theorem dX10_sentIn_12 : decode cX10_sentIn 12 = .ok (.invokestatic 249, 3) := by decide +kernel
theorem dX10_sentIn_15 : decode cX10_sentIn 15 = .ok (.aload_n 0, 1) := by decide +kernel
theorem dX10_sentIn_16 : decode cX10_sentIn 16 = .ok (.getfield 37, 3) := by decide +kernel
theorem dX10_sentIn_19 : decode cX10_sentIn 19 = .ok (.aload_n 0, 1) := by decide +kernel
theorem dX10_sentIn_20 : decode cX10_sentIn 20 = .ok (.getfield 41, 3) := by decide +kernel
theorem dX10_sentIn_23 : decode cX10_sentIn 23 = .ok (.invokestatic 301, 3) := by decide +kernel
theorem dX10_sentIn_26 : decode cX10_sentIn 26 = .ok (.aload_n 0, 1) := by decide +kernel
theorem dX10_sentIn_27 : decode cX10_sentIn 27 = .ok (.getfield 41, 3) := by decide +kernel
theorem dX10_sentIn_30 : decode cX10_sentIn 30 = .ok (.iload_n 2, 1) := by decide +kernel
theorem dX10_sentIn_31 : decode cX10_sentIn 31 = .ok (.putfield 151, 3) := by decide +kernel
theorem dX10_sentIn_34 : decode cX10_sentIn 34 = .ok (.aload_n 0, 1) := by decide +kernel
theorem dX10_sentIn_35 : decode cX10_sentIn 35 = .ok (.getfield 41, 3) := by decide +kernel
theorem dX10_sentIn_38 : decode cX10_sentIn 38 = .ok (.iload_n 1, 1) := by decide +kernel
theorem dX10_sentIn_39 : decode cX10_sentIn 39 = .ok (.invokevirtual 314, 3) := by decide +kernel
theorem dX10_sentIn_42 : decode cX10_sentIn 42 = .ok (.aload_n 0, 1) := by decide +kernel
theorem dX10_sentIn_43 : decode cX10_sentIn 43 = .ok (.getfield 41, 3) := by decide +kernel
theorem dX10_sentIn_46 : decode cX10_sentIn 46 = .ok (.getfield 133, 3) := by decide +kernel
theorem dX10_sentIn_49 : decode cX10_sentIn 49 = .ok (.getfield 142, 3) := by decide +kernel
theorem dX10_sentIn_52 : decode cX10_sentIn 52 = .ok (.aload_n 0, 1) := by decide +kernel
theorem dX10_sentIn_53 : decode cX10_sentIn 53 = .ok (.getfield 37, 3) := by decide +kernel
theorem dX10_sentIn_56 : decode cX10_sentIn 56 = .ok (.getfield 133, 3) := by decide +kernel
theorem dX10_sentIn_59 : decode cX10_sentIn 59 = .ok (.getfield 142, 3) := by decide +kernel
theorem dX10_sentIn_62 : decode cX10_sentIn 62 = .ok (.isub, 1) := by decide +kernel
theorem dX10_sentIn_63 : decode cX10_sentIn 63 = .ok (.ireturn, 1) := by decide +kernel
theorem dX10_run_0 : decode cX10_run 0 = .ok (.iload_n 1, 1) := by decide +kernel
theorem dX10_run_1 : decode cX10_run 1 = .ok (.iconst 1, 1) := by decide +kernel
theorem dX10_run_2 : decode cX10_run 2 = .ok (.sipush 200, 3) := by decide +kernel
theorem dX10_run_5 : decode cX10_run 5 = .ok (.invokestatic 249, 3) := by decide +kernel
theorem dX10_run_8 : decode cX10_run 8 = .ok (.aload_n 0, 1) := by decide +kernel
theorem dX10_run_9 : decode cX10_run 9 = .ok (.getfield 37, 3) := by decide +kernel
theorem dX10_run_12 : decode cX10_run 12 = .ok (.getfield 121, 3) := by decide +kernel
theorem dX10_run_15 : decode cX10_run 15 = .ok (.iload_n 1, 1) := by decide +kernel
theorem dX10_run_16 : decode cX10_run 16 = .ok (.iadd, 1) := by decide +kernel
theorem dX10_run_17 : decode cX10_run 17 = .ok (.sipush 5000, 3) := by decide +kernel
theorem dX10_run_20 : decode cX10_run 20 = .ok (.if_icmp .le 14, 3) := by decide +kernel
theorem dX10_run_23 : decode cX10_run 23 = .ok (.new 58, 3) := by decide +kernel
theorem dX10_run_26 : decode cX10_run 26 = .ok (.dup, 1) := by decide +kernel
theorem dX10_run_27 : decode cX10_run 27 = .ok (.ldc_w 317, 3) := by decide +kernel
theorem dX10_run_30 : decode cX10_run 30 = .ok (.invokespecial 62, 3) := by decide +kernel
theorem dX10_run_33 : decode cX10_run 33 = .ok (.athrow, 1) := by decide +kernel
theorem dX10_run_34 : decode cX10_run 34 = .ok (.aload_n 0, 1) := by decide +kernel
theorem dX10_run_35 : decode cX10_run 35 = .ok (.getfield 47, 3) := by decide +kernel
theorem dX10_run_38 : decode cX10_run 38 = .ok (.aload_n 0, 1) := by decide +kernel
theorem dX10_run_39 : decode cX10_run 39 = .ok (.getfield 37, 3) := by decide +kernel
theorem dX10_run_42 : decode cX10_run 42 = .ok (.invokevirtual 319, 3) := by decide +kernel
theorem dX10_run_45 : decode cX10_run 45 = .ok (.aload_n 0, 1) := by decide +kernel
theorem dX10_run_46 : decode cX10_run 46 = .ok (.getfield 37, 3) := by decide +kernel
theorem dX10_run_49 : decode cX10_run 49 = .ok (.iload_n 1, 1) := by decide +kernel
theorem dX10_run_50 : decode cX10_run 50 = .ok (.invokevirtual 314, 3) := by decide +kernel
theorem dX10_run_53 : decode cX10_run 53 = .ok (.aload_n 0, 1) := by decide +kernel
theorem dX10_run_54 : decode cX10_run 54 = .ok (.getfield 37, 3) := by decide +kernel
theorem dX10_run_57 : decode cX10_run 57 = .ok (.getfield 169, 3) := by decide +kernel
theorem dX10_run_60 : decode cX10_run 60 = .ok (.iconst 3, 1) := by decide +kernel
theorem dX10_run_61 : decode cX10_run 61 = .ok (.invokevirtual 256, 3) := by decide +kernel
theorem dX10_run_64 : decode cX10_run 64 = .ok (.invokestatic 323, 3) := by decide +kernel
theorem dX10_run_67 : decode cX10_run 67 = .ok (.ireturn, 1) := by decide +kernel
theorem dX10_blackout_0 : decode cX10_blackout 0 = .ok (.iload_n 1, 1) := by decide +kernel
theorem dX10_blackout_1 : decode cX10_blackout 1 = .ok (.iconst 1, 1) := by decide +kernel
theorem dX10_blackout_2 : decode cX10_blackout 2 = .ok (.bipush 50, 2) := by decide +kernel
theorem dX10_blackout_4 : decode cX10_blackout 4 = .ok (.invokestatic 249, 3) := by decide +kernel
theorem dX10_blackout_7 : decode cX10_blackout 7 = .ok (.aload_n 0, 1) := by decide +kernel
theorem dX10_blackout_8 : decode cX10_blackout 8 = .ok (.getfield 47, 3) := by decide +kernel
theorem dX10_blackout_11 : decode cX10_blackout 11 = .ok (.aload_n 0, 1) := by decide +kernel
theorem dX10_blackout_12 : decode cX10_blackout 12 = .ok (.getfield 37, 3) := by decide +kernel
theorem dX10_blackout_15 : decode cX10_blackout 15 = .ok (.invokevirtual 319, 3) := by decide +kernel
theorem dX10_blackout_18 : decode cX10_blackout 18 = .ok (.aload_n 0, 1) := by decide +kernel
theorem dX10_blackout_19 : decode cX10_blackout 19 = .ok (.getfield 37, 3) := by decide +kernel
theorem dX10_blackout_22 : decode cX10_blackout 22 = .ok (.iload_n 1, 1) := by decide +kernel
theorem dX10_blackout_23 : decode cX10_blackout 23 = .ok (.invokevirtual 328, 3) := by decide +kernel
theorem dX10_blackout_26 : decode cX10_blackout 26 = .ok (.aload_n 0, 1) := by decide +kernel
theorem dX10_blackout_27 : decode cX10_blackout 27 = .ok (.getfield 37, 3) := by decide +kernel
theorem dX10_blackout_30 : decode cX10_blackout 30 = .ok (.getfield 331, 3) := by decide +kernel
theorem dX10_blackout_33 : decode cX10_blackout 33 = .ok (.ireturn, 1) := by decide +kernel
theorem dX10_want_0 : decode cX10_want 0 = .ok (.aload_n 0, 1) := by decide +kernel
theorem dX10_want_1 : decode cX10_want 1 = .ok (.iload_n 1, 1) := by decide +kernel
theorem dX10_want_2 : decode cX10_want 2 = .ok (.invokevirtual 166, 3) := by decide +kernel
theorem dX10_want_5 : decode cX10_want 5 = .ok (.aload_n 0, 1) := by decide +kernel
theorem dX10_want_6 : decode cX10_want 6 = .ok (.getfield 47, 3) := by decide +kernel
theorem dX10_want_9 : decode cX10_want 9 = .ok (.aload_n 0, 1) := by decide +kernel
theorem dX10_want_10 : decode cX10_want 10 = .ok (.getfield 37, 3) := by decide +kernel
theorem dX10_want_13 : decode cX10_want 13 = .ok (.invokevirtual 319, 3) := by decide +kernel
theorem dX10_want_16 : decode cX10_want 16 = .ok (.aload_n 0, 1) := by decide +kernel
theorem dX10_want_17 : decode cX10_want 17 = .ok (.getfield 37, 3) := by decide +kernel
theorem dX10_want_20 : decode cX10_want 20 = .ok (.getfield 169, 3) := by decide +kernel
theorem dX10_want_23 : decode cX10_want 23 = .ok (.iload_n 1, 1) := by decide +kernel
theorem dX10_want_24 : decode cX10_want 24 = .ok (.invokevirtual 190, 3) := by decide +kernel
theorem dX10_want_27 : decode cX10_want 27 = .ok (.istore_n 3, 1) := by decide +kernel
theorem dX10_want_28 : decode cX10_want 28 = .ok (.iload_n 2, 1) := by decide +kernel
theorem dX10_want_29 : decode cX10_want 29 = .ok (.ifCond .eq 21, 3) := by decide +kernel
theorem dX10_want_32 : decode cX10_want 32 = .ok (.iload_n 3, 1) := by decide +kernel
theorem dX10_want_33 : decode cX10_want 33 = .ok (.ifCond .ne 17, 3) := by decide +kernel
theorem dX10_want_36 : decode cX10_want 36 = .ok (.aload_n 0, 1) := by decide +kernel
theorem dX10_want_37 : decode cX10_want 37 = .ok (.getfield 37, 3) := by decide +kernel
theorem dX10_want_40 : decode cX10_want 40 = .ok (.getfield 169, 3) := by decide +kernel
theorem dX10_want_43 : decode cX10_want 43 = .ok (.iload_n 1, 1) := by decide +kernel
theorem dX10_want_44 : decode cX10_want 44 = .ok (.invokevirtual 334, 3) := by decide +kernel
theorem dX10_want_47 : decode cX10_want 47 = .ok (.goto 22, 3) := by decide +kernel
theorem dX10_want_50 : decode cX10_want 50 = .ok (.iload_n 2, 1) := by decide +kernel
theorem dX10_want_51 : decode cX10_want 51 = .ok (.ifCond .ne 18, 3) := by decide +kernel
theorem dX10_want_54 : decode cX10_want 54 = .ok (.iload_n 3, 1) := by decide +kernel
theorem dX10_want_55 : decode cX10_want 55 = .ok (.ifCond .eq 14, 3) := by decide +kernel
theorem dX10_want_58 : decode cX10_want 58 = .ok (.aload_n 0, 1) := by decide +kernel
theorem dX10_want_59 : decode cX10_want 59 = .ok (.getfield 37, 3) := by decide +kernel
theorem dX10_want_62 : decode cX10_want 62 = .ok (.getfield 169, 3) := by decide +kernel
theorem dX10_want_65 : decode cX10_want 65 = .ok (.iload_n 1, 1) := by decide +kernel
theorem dX10_want_66 : decode cX10_want 66 = .ok (.invokevirtual 337, 3) := by decide +kernel
theorem dX10_want_69 : decode cX10_want 69 = .ok (.iload_n 3, 1) := by decide +kernel
theorem dX10_want_70 : decode cX10_want 70 = .ok (.ireturn, 1) := by decide +kernel
theorem dX10_setFuse_0 : decode cX10_setFuse 0 = .ok (.iload_n 1, 1) := by decide +kernel
theorem dX10_setFuse_1 : decode cX10_setFuse 1 = .ok (.iconst 1, 1) := by decide +kernel
theorem dX10_setFuse_2 : decode cX10_setFuse 2 = .ok (.sipush 9999, 3) := by decide +kernel
theorem dX10_setFuse_5 : decode cX10_setFuse 5 = .ok (.invokestatic 249, 3) := by decide +kernel
theorem dX10_setFuse_8 : decode cX10_setFuse 8 = .ok (.aload_n 0, 1) := by decide +kernel
theorem dX10_setFuse_9 : decode cX10_setFuse 9 = .ok (.getfield 47, 3) := by decide +kernel
theorem dX10_setFuse_12 : decode cX10_setFuse 12 = .ok (.aload_n 0, 1) := by decide +kernel
theorem dX10_setFuse_13 : decode cX10_setFuse 13 = .ok (.getfield 37, 3) := by decide +kernel
theorem dX10_setFuse_16 : decode cX10_setFuse 16 = .ok (.invokevirtual 319, 3) := by decide +kernel
theorem dX10_setFuse_19 : decode cX10_setFuse 19 = .ok (.aload_n 0, 1) := by decide +kernel
theorem dX10_setFuse_20 : decode cX10_setFuse 20 = .ok (.getfield 37, 3) := by decide +kernel
theorem dX10_setFuse_23 : decode cX10_setFuse 23 = .ok (.getfield 148, 3) := by decide +kernel
theorem dX10_setFuse_26 : decode cX10_setFuse 26 = .ok (.istore_n 2, 1) := by decide +kernel
theorem dX10_setFuse_27 : decode cX10_setFuse 27 = .ok (.aload_n 0, 1) := by decide +kernel
theorem dX10_setFuse_28 : decode cX10_setFuse 28 = .ok (.getfield 37, 3) := by decide +kernel
theorem dX10_setFuse_31 : decode cX10_setFuse 31 = .ok (.iload_n 1, 1) := by decide +kernel
theorem dX10_setFuse_32 : decode cX10_setFuse 32 = .ok (.putfield 148, 3) := by decide +kernel
theorem dX10_setFuse_35 : decode cX10_setFuse 35 = .ok (.iload_n 2, 1) := by decide +kernel
theorem dX10_setFuse_36 : decode cX10_setFuse 36 = .ok (.ireturn, 1) := by decide +kernel
theorem dX10_setPriority_0 : decode cX10_setPriority 0 = .ok (.aload_n 0, 1) := by decide +kernel
theorem dX10_setPriority_1 : decode cX10_setPriority 1 = .ok (.iload_n 1, 1) := by decide +kernel
theorem dX10_setPriority_2 : decode cX10_setPriority 2 = .ok (.invokevirtual 166, 3) := by decide +kernel
theorem dX10_setPriority_5 : decode cX10_setPriority 5 = .ok (.iload_n 2, 1) := by decide +kernel
theorem dX10_setPriority_6 : decode cX10_setPriority 6 = .ok (.iconst 0, 1) := by decide +kernel
theorem dX10_setPriority_7 : decode cX10_setPriority 7 = .ok (.bipush 9, 2) := by decide +kernel
theorem dX10_setPriority_9 : decode cX10_setPriority 9 = .ok (.invokestatic 249, 3) := by decide +kernel
theorem dX10_setPriority_12 : decode cX10_setPriority 12 = .ok (.aload_n 0, 1) := by decide +kernel
theorem dX10_setPriority_13 : decode cX10_setPriority 13 = .ok (.getfield 47, 3) := by decide +kernel
theorem dX10_setPriority_16 : decode cX10_setPriority 16 = .ok (.aload_n 0, 1) := by decide +kernel
theorem dX10_setPriority_17 : decode cX10_setPriority 17 = .ok (.getfield 37, 3) := by decide +kernel
theorem dX10_setPriority_20 : decode cX10_setPriority 20 = .ok (.invokevirtual 319, 3) := by decide +kernel
theorem dX10_setPriority_23 : decode cX10_setPriority 23 = .ok (.aload_n 0, 1) := by decide +kernel
theorem dX10_setPriority_24 : decode cX10_setPriority 24 = .ok (.getfield 37, 3) := by decide +kernel
theorem dX10_setPriority_27 : decode cX10_setPriority 27 = .ok (.getfield 169, 3) := by decide +kernel
theorem dX10_setPriority_30 : decode cX10_setPriority 30 = .ok (.getfield 185, 3) := by decide +kernel
theorem dX10_setPriority_33 : decode cX10_setPriority 33 = .ok (.iload_n 1, 1) := by decide +kernel
theorem dX10_setPriority_34 : decode cX10_setPriority 34 = .ok (.iaload, 1) := by decide +kernel
theorem dX10_setPriority_35 : decode cX10_setPriority 35 = .ok (.istore_n 3, 1) := by decide +kernel
theorem dX10_setPriority_36 : decode cX10_setPriority 36 = .ok (.aload_n 0, 1) := by decide +kernel
theorem dX10_setPriority_37 : decode cX10_setPriority 37 = .ok (.getfield 37, 3) := by decide +kernel
theorem dX10_setPriority_40 : decode cX10_setPriority 40 = .ok (.getfield 169, 3) := by decide +kernel
theorem dX10_setPriority_43 : decode cX10_setPriority 43 = .ok (.getfield 185, 3) := by decide +kernel
theorem dX10_setPriority_46 : decode cX10_setPriority 46 = .ok (.iload_n 1, 1) := by decide +kernel
theorem dX10_setPriority_47 : decode cX10_setPriority 47 = .ok (.iload_n 2, 1) := by decide +kernel
theorem dX10_setPriority_48 : decode cX10_setPriority 48 = .ok (.iastore, 1) := by decide +kernel
theorem dX10_setPriority_49 : decode cX10_setPriority 49 = .ok (.iload_n 3, 1) := by decide +kernel
theorem dX10_setPriority_50 : decode cX10_setPriority 50 = .ok (.ireturn, 1) := by decide +kernel
theorem dX10_forget_0 : decode cX10_forget 0 = .ok (.aload_n 0, 1) := by decide +kernel
theorem dX10_forget_1 : decode cX10_forget 1 = .ok (.getfield 47, 3) := by decide +kernel
theorem dX10_forget_4 : decode cX10_forget 4 = .ok (.aload_n 0, 1) := by decide +kernel
theorem dX10_forget_5 : decode cX10_forget 5 = .ok (.getfield 37, 3) := by decide +kernel
theorem dX10_forget_8 : decode cX10_forget 8 = .ok (.invokevirtual 319, 3) := by decide +kernel
theorem dX10_forget_11 : decode cX10_forget 11 = .ok (.aload_n 0, 1) := by decide +kernel
theorem dX10_forget_12 : decode cX10_forget 12 = .ok (.getfield 37, 3) := by decide +kernel
theorem dX10_forget_15 : decode cX10_forget 15 = .ok (.getfield 208, 3) := by decide +kernel
theorem dX10_forget_18 : decode cX10_forget 18 = .ok (.getfield 236, 3) := by decide +kernel
theorem dX10_forget_21 : decode cX10_forget 21 = .ok (.invokestatic 323, 3) := by decide +kernel
theorem dX10_forget_24 : decode cX10_forget 24 = .ok (.istore_n 1, 1) := by decide +kernel
theorem dX10_forget_25 : decode cX10_forget 25 = .ok (.aload_n 0, 1) := by decide +kernel
theorem dX10_forget_26 : decode cX10_forget 26 = .ok (.getfield 37, 3) := by decide +kernel
theorem dX10_forget_29 : decode cX10_forget 29 = .ok (.getfield 208, 3) := by decide +kernel
theorem dX10_forget_32 : decode cX10_forget 32 = .ok (.invokevirtual 311, 3) := by decide +kernel
theorem dX10_forget_35 : decode cX10_forget 35 = .ok (.iload_n 1, 1) := by decide +kernel
theorem dX10_forget_36 : decode cX10_forget 36 = .ok (.ireturn, 1) := by decide +kernel
theorem dX10_undo_0 : decode cX10_undo 0 = .ok (.aload_n 0, 1) := by decide +kernel
theorem dX10_undo_1 : decode cX10_undo 1 = .ok (.getfield 47, 3) := by decide +kernel
theorem dX10_undo_4 : decode cX10_undo 4 = .ok (.getfield 161, 3) := by decide +kernel
theorem dX10_undo_7 : decode cX10_undo 7 = .ok (.ifCond .ne 14, 3) := by decide +kernel
theorem dX10_undo_10 : decode cX10_undo 10 = .ok (.new 58, 3) := by decide +kernel
theorem dX10_undo_13 : decode cX10_undo 13 = .ok (.dup, 1) := by decide +kernel
theorem dX10_undo_14 : decode cX10_undo 14 = .ok (.ldc_w 340, 3) := by decide +kernel
theorem dX10_undo_17 : decode cX10_undo 17 = .ok (.invokespecial 62, 3) := by decide +kernel
theorem dX10_undo_20 : decode cX10_undo 20 = .ok (.athrow, 1) := by decide +kernel
theorem dX10_undo_21 : decode cX10_undo 21 = .ok (.aload_n 0, 1) := by decide +kernel
theorem dX10_undo_22 : decode cX10_undo 22 = .ok (.getfield 47, 3) := by decide +kernel
theorem dX10_undo_25 : decode cX10_undo 25 = .ok (.aload_n 0, 1) := by decide +kernel
theorem dX10_undo_26 : decode cX10_undo 26 = .ok (.getfield 37, 3) := by decide +kernel
theorem dX10_undo_29 : decode cX10_undo 29 = .ok (.invokevirtual 342, 3) := by decide +kernel
theorem dX10_undo_32 : decode cX10_undo 32 = .ok (.aload_n 0, 1) := by decide +kernel
theorem dX10_undo_33 : decode cX10_undo 33 = .ok (.getfield 47, 3) := by decide +kernel
theorem dX10_undo_36 : decode cX10_undo 36 = .ok (.getfield 161, 3) := by decide +kernel
theorem dX10_undo_39 : decode cX10_undo 39 = .ok (.ireturn, 1) := by decide +kernel
theorem dX10_save_0 : decode cX10_save 0 = .ok (.iload_n 1, 1) := by decide +kernel
theorem dX10_save_1 : decode cX10_save 1 = .ok (.invokestatic 345, 3) := by decide +kernel
theorem dX10_save_4 : decode cX10_save 4 = .ok (.aload_n 0, 1) := by decide +kernel
theorem dX10_save_5 : decode cX10_save 5 = .ok (.getfield 47, 3) := by decide +kernel
theorem dX10_save_8 : decode cX10_save 8 = .ok (.iload_n 1, 1) := by decide +kernel
theorem dX10_save_9 : decode cX10_save 9 = .ok (.aload_n 0, 1) := by decide +kernel
theorem dX10_save_10 : decode cX10_save 10 = .ok (.getfield 37, 3) := by decide +kernel
theorem dX10_save_13 : decode cX10_save 13 = .ok (.invokevirtual 348, 3) := by decide +kernel
theorem dX10_save_16 : decode cX10_save 16 = .ok (.return_, 1) := by decide +kernel
theorem dX10_restore_0 : decode cX10_restore 0 = .ok (.iload_n 1, 1) := by decide +kernel
theorem dX10_restore_1 : decode cX10_restore 1 = .ok (.invokestatic 345, 3) := by decide +kernel
theorem dX10_restore_4 : decode cX10_restore 4 = .ok (.aload_n 0, 1) := by decide +kernel
theorem dX10_restore_5 : decode cX10_restore 5 = .ok (.getfield 47, 3) := by decide +kernel
theorem dX10_restore_8 : decode cX10_restore 8 = .ok (.iload_n 1, 1) := by decide +kernel
theorem dX10_restore_9 : decode cX10_restore 9 = .ok (.invokevirtual 352, 3) := by decide +kernel
theorem dX10_restore_12 : decode cX10_restore 12 = .ok (.ifCond .ne 14, 3) := by decide +kernel
theorem dX10_restore_15 : decode cX10_restore 15 = .ok (.new 112, 3) := by decide +kernel
theorem dX10_restore_18 : decode cX10_restore 18 = .ok (.dup, 1) := by decide +kernel
theorem dX10_restore_19 : decode cX10_restore 19 = .ok (.ldc_w 355, 3) := by decide +kernel
theorem dX10_restore_22 : decode cX10_restore 22 = .ok (.invokespecial 116, 3) := by decide +kernel
theorem dX10_restore_25 : decode cX10_restore 25 = .ok (.athrow, 1) := by decide +kernel
theorem dX10_restore_26 : decode cX10_restore 26 = .ok (.aload_n 0, 1) := by decide +kernel
theorem dX10_restore_27 : decode cX10_restore 27 = .ok (.getfield 47, 3) := by decide +kernel
theorem dX10_restore_30 : decode cX10_restore 30 = .ok (.iload_n 1, 1) := by decide +kernel
theorem dX10_restore_31 : decode cX10_restore 31 = .ok (.aload_n 0, 1) := by decide +kernel
theorem dX10_restore_32 : decode cX10_restore 32 = .ok (.getfield 37, 3) := by decide +kernel
theorem dX10_restore_35 : decode cX10_restore 35 = .ok (.invokevirtual 357, 3) := by decide +kernel
theorem dX10_restore_38 : decode cX10_restore 38 = .ok (.aload_n 0, 1) := by decide +kernel
theorem dX10_restore_39 : decode cX10_restore 39 = .ok (.getfield 47, 3) := by decide +kernel
theorem dX10_restore_42 : decode cX10_restore 42 = .ok (.invokevirtual 89, 3) := by decide +kernel
theorem dX10_restore_45 : decode cX10_restore 45 = .ok (.return_, 1) := by decide +kernel
theorem dX10_checkOutlet_0 : decode cX10_checkOutlet 0 = .ok (.iload_n 1, 1) := by decide +kernel
theorem dX10_checkOutlet_1 : decode cX10_checkOutlet 1 = .ok (.ifCond .lt 14, 3) := by decide +kernel
theorem dX10_checkOutlet_4 : decode cX10_checkOutlet 4 = .ok (.iload_n 1, 1) := by decide +kernel
theorem dX10_checkOutlet_5 : decode cX10_checkOutlet 5 = .ok (.aload_n 0, 1) := by decide +kernel
theorem dX10_checkOutlet_6 : decode cX10_checkOutlet 6 = .ok (.getfield 28, 3) := by decide +kernel
theorem dX10_checkOutlet_9 : decode cX10_checkOutlet 9 = .ok (.getfield 95, 3) := by decide +kernel
theorem dX10_checkOutlet_12 : decode cX10_checkOutlet 12 = .ok (.if_icmp .lt 14, 3) := by decide +kernel
theorem dX10_checkOutlet_15 : decode cX10_checkOutlet 15 = .ok (.new 69, 3) := by decide +kernel
theorem dX10_checkOutlet_18 : decode cX10_checkOutlet 18 = .ok (.dup, 1) := by decide +kernel
theorem dX10_checkOutlet_19 : decode cX10_checkOutlet 19 = .ok (.ldc_w 360, 3) := by decide +kernel
theorem dX10_checkOutlet_22 : decode cX10_checkOutlet 22 = .ok (.invokespecial 73, 3) := by decide +kernel
theorem dX10_checkOutlet_25 : decode cX10_checkOutlet 25 = .ok (.athrow, 1) := by decide +kernel
theorem dX10_checkOutlet_26 : decode cX10_checkOutlet 26 = .ok (.return_, 1) := by decide +kernel
theorem dX10_checkSlot_0 : decode cX10_checkSlot 0 = .ok (.iload_n 0, 1) := by decide +kernel
theorem dX10_checkSlot_1 : decode cX10_checkSlot 1 = .ok (.ifCond .lt 8, 3) := by decide +kernel
theorem dX10_checkSlot_4 : decode cX10_checkSlot 4 = .ok (.iload_n 0, 1) := by decide +kernel
theorem dX10_checkSlot_5 : decode cX10_checkSlot 5 = .ok (.iconst 2, 1) := by decide +kernel
theorem dX10_checkSlot_6 : decode cX10_checkSlot 6 = .ok (.if_icmp .lt 14, 3) := by decide +kernel
theorem dX10_checkSlot_9 : decode cX10_checkSlot 9 = .ok (.new 69, 3) := by decide +kernel
theorem dX10_checkSlot_12 : decode cX10_checkSlot 12 = .ok (.dup, 1) := by decide +kernel
theorem dX10_checkSlot_13 : decode cX10_checkSlot 13 = .ok (.ldc_w 362, 3) := by decide +kernel
theorem dX10_checkSlot_16 : decode cX10_checkSlot 16 = .ok (.invokespecial 73, 3) := by decide +kernel
theorem dX10_checkSlot_19 : decode cX10_checkSlot 19 = .ok (.athrow, 1) := by decide +kernel
theorem dX10_checkSlot_20 : decode cX10_checkSlot 20 = .ok (.return_, 1) := by decide +kernel
theorem dX10_checkRange_0 : decode cX10_checkRange 0 = .ok (.iload_n 0, 1) := by decide +kernel
theorem dX10_checkRange_1 : decode cX10_checkRange 1 = .ok (.iload_n 1, 1) := by decide +kernel
theorem dX10_checkRange_2 : decode cX10_checkRange 2 = .ok (.if_icmp .lt 8, 3) := by decide +kernel
theorem dX10_checkRange_5 : decode cX10_checkRange 5 = .ok (.iload_n 0, 1) := by decide +kernel
theorem dX10_checkRange_6 : decode cX10_checkRange 6 = .ok (.iload_n 2, 1) := by decide +kernel
theorem dX10_checkRange_7 : decode cX10_checkRange 7 = .ok (.if_icmp .le 14, 3) := by decide +kernel
theorem dX10_checkRange_10 : decode cX10_checkRange 10 = .ok (.new 78, 3) := by decide +kernel
theorem dX10_checkRange_13 : decode cX10_checkRange 13 = .ok (.dup, 1) := by decide +kernel
theorem dX10_checkRange_14 : decode cX10_checkRange 14 = .ok (.ldc_w 364, 3) := by decide +kernel
theorem dX10_checkRange_17 : decode cX10_checkRange 17 = .ok (.invokespecial 82, 3) := by decide +kernel
theorem dX10_checkRange_20 : decode cX10_checkRange 20 = .ok (.athrow, 1) := by decide +kernel
theorem dX10_checkRange_21 : decode cX10_checkRange 21 = .ok (.return_, 1) := by decide +kernel
theorem dX10_ticksUntilRunning_0 : decode cX10_ticksUntilRunning 0 = .ok (.iconst 0, 1) := by decide +kernel
theorem dX10_ticksUntilRunning_1 : decode cX10_ticksUntilRunning 1 = .ok (.istore_n 2, 1) := by decide +kernel
theorem dX10_ticksUntilRunning_2 : decode cX10_ticksUntilRunning 2 = .ok (.iload_n 2, 1) := by decide +kernel
theorem dX10_ticksUntilRunning_3 : decode cX10_ticksUntilRunning 3 = .ok (.sipush 500, 3) := by decide +kernel
theorem dX10_ticksUntilRunning_6 : decode cX10_ticksUntilRunning 6 = .ok (.if_icmp .gt 36, 3) := by decide +kernel
theorem dX10_ticksUntilRunning_9 : decode cX10_ticksUntilRunning 9 = .ok (.iload_n 1, 1) := by decide +kernel
theorem dX10_ticksUntilRunning_10 : decode cX10_ticksUntilRunning 10 = .ok (.aload_n 0, 1) := by decide +kernel
theorem dX10_ticksUntilRunning_11 : decode cX10_ticksUntilRunning 11 = .ok (.getfield 41, 3) := by decide +kernel
theorem dX10_ticksUntilRunning_14 : decode cX10_ticksUntilRunning 14 = .ok (.getfield 169, 3) := by decide +kernel
theorem dX10_ticksUntilRunning_17 : decode cX10_ticksUntilRunning 17 = .ok (.iconst 3, 1) := by decide +kernel
theorem dX10_ticksUntilRunning_18 : decode cX10_ticksUntilRunning 18 = .ok (.invokevirtual 256, 3) := by decide +kernel
theorem dX10_ticksUntilRunning_21 : decode cX10_ticksUntilRunning 21 = .ok (.iconst (-1), 1) := by decide +kernel
theorem dX10_ticksUntilRunning_22 : decode cX10_ticksUntilRunning 22 = .ok (.ixor, 1) := by decide +kernel
theorem dX10_ticksUntilRunning_23 : decode cX10_ticksUntilRunning 23 = .ok (.iand, 1) := by decide +kernel
theorem dX10_ticksUntilRunning_24 : decode cX10_ticksUntilRunning 24 = .ok (.ifCond .ne 5, 3) := by decide +kernel
theorem dX10_ticksUntilRunning_27 : decode cX10_ticksUntilRunning 27 = .ok (.iload_n 2, 1) := by decide +kernel
theorem dX10_ticksUntilRunning_28 : decode cX10_ticksUntilRunning 28 = .ok (.ireturn, 1) := by decide +kernel
theorem dX10_ticksUntilRunning_29 : decode cX10_ticksUntilRunning 29 = .ok (.aload_n 0, 1) := by decide +kernel
theorem dX10_ticksUntilRunning_30 : decode cX10_ticksUntilRunning 30 = .ok (.getfield 41, 3) := by decide +kernel
theorem dX10_ticksUntilRunning_33 : decode cX10_ticksUntilRunning 33 = .ok (.invokevirtual 366, 3) := by decide +kernel
theorem dX10_ticksUntilRunning_36 : decode cX10_ticksUntilRunning 36 = .ok (.iinc 2 1, 3) := by decide +kernel
theorem dX10_ticksUntilRunning_39 : decode cX10_ticksUntilRunning 39 = .ok (.goto (-37), 3) := by decide +kernel
theorem dX10_ticksUntilRunning_42 : decode cX10_ticksUntilRunning 42 = .ok (.new 112, 3) := by decide +kernel
theorem dX10_ticksUntilRunning_45 : decode cX10_ticksUntilRunning 45 = .ok (.dup, 1) := by decide +kernel
theorem dX10_ticksUntilRunning_46 : decode cX10_ticksUntilRunning 46 = .ok (.ldc_w 369, 3) := by decide +kernel
theorem dX10_ticksUntilRunning_49 : decode cX10_ticksUntilRunning 49 = .ok (.invokespecial 116, 3) := by decide +kernel
theorem dX10_ticksUntilRunning_52 : decode cX10_ticksUntilRunning 52 = .ok (.athrow, 1) := by decide +kernel
theorem dX10_copyState_0 : decode cX10_copyState 0 = .ok (.aload_n 0, 1) := by decide +kernel
theorem dX10_copyState_1 : decode cX10_copyState 1 = .ok (.ifnull 7, 3) := by decide +kernel
theorem dX10_copyState_4 : decode cX10_copyState 4 = .ok (.aload_n 1, 1) := by decide +kernel
theorem dX10_copyState_5 : decode cX10_copyState 5 = .ok (.ifnonnull 4, 3) := by decide +kernel
theorem dX10_copyState_8 : decode cX10_copyState 8 = .ok (.return_, 1) := by decide +kernel
theorem dX10_copyState_9 : decode cX10_copyState 9 = .ok (.aload_n 1, 1) := by decide +kernel
theorem dX10_copyState_10 : decode cX10_copyState 10 = .ok (.aload_n 0, 1) := by decide +kernel
theorem dX10_copyState_11 : decode cX10_copyState 11 = .ok (.getfield 121, 3) := by decide +kernel
theorem dX10_copyState_14 : decode cX10_copyState 14 = .ok (.putfield 121, 3) := by decide +kernel
theorem dX10_copyState_17 : decode cX10_copyState 17 = .ok (.aload_n 1, 1) := by decide +kernel
theorem dX10_copyState_18 : decode cX10_copyState 18 = .ok (.aload_n 0, 1) := by decide +kernel
theorem dX10_copyState_19 : decode cX10_copyState 19 = .ok (.getfield 331, 3) := by decide +kernel
theorem dX10_copyState_22 : decode cX10_copyState 22 = .ok (.putfield 331, 3) := by decide +kernel
theorem dX10_copyState_25 : decode cX10_copyState 25 = .ok (.aload_n 1, 1) := by decide +kernel
theorem dX10_copyState_26 : decode cX10_copyState 26 = .ok (.aload_n 0, 1) := by decide +kernel
theorem dX10_copyState_27 : decode cX10_copyState 27 = .ok (.getfield 148, 3) := by decide +kernel
theorem dX10_copyState_30 : decode cX10_copyState 30 = .ok (.putfield 148, 3) := by decide +kernel
theorem dX10_copyState_33 : decode cX10_copyState 33 = .ok (.aload_n 1, 1) := by decide +kernel
theorem dX10_copyState_34 : decode cX10_copyState 34 = .ok (.aload_n 0, 1) := by decide +kernel
theorem dX10_copyState_35 : decode cX10_copyState 35 = .ok (.getfield 151, 3) := by decide +kernel
theorem dX10_copyState_38 : decode cX10_copyState 38 = .ok (.putfield 151, 3) := by decide +kernel
theorem dX10_copyState_41 : decode cX10_copyState 41 = .ok (.aload_n 1, 1) := by decide +kernel
theorem dX10_copyState_42 : decode cX10_copyState 42 = .ok (.aload_n 0, 1) := by decide +kernel
theorem dX10_copyState_43 : decode cX10_copyState 43 = .ok (.getfield 157, 3) := by decide +kernel
theorem dX10_copyState_46 : decode cX10_copyState 46 = .ok (.putfield 157, 3) := by decide +kernel
theorem dX10_copyState_49 : decode cX10_copyState 49 = .ok (.aload_n 1, 1) := by decide +kernel
theorem dX10_copyState_50 : decode cX10_copyState 50 = .ok (.aload_n 0, 1) := by decide +kernel
theorem dX10_copyState_51 : decode cX10_copyState 51 = .ok (.getfield 127, 3) := by decide +kernel
theorem dX10_copyState_54 : decode cX10_copyState 54 = .ok (.putfield 127, 3) := by decide +kernel
theorem dX10_copyState_57 : decode cX10_copyState 57 = .ok (.aload_n 1, 1) := by decide +kernel
theorem dX10_copyState_58 : decode cX10_copyState 58 = .ok (.aload_n 0, 1) := by decide +kernel
theorem dX10_copyState_59 : decode cX10_copyState 59 = .ok (.getfield 130, 3) := by decide +kernel
theorem dX10_copyState_62 : decode cX10_copyState 62 = .ok (.putfield 130, 3) := by decide +kernel
theorem dX10_copyState_65 : decode cX10_copyState 65 = .ok (.aload_n 1, 1) := by decide +kernel
theorem dX10_copyState_66 : decode cX10_copyState 66 = .ok (.aload_n 0, 1) := by decide +kernel
theorem dX10_copyState_67 : decode cX10_copyState 67 = .ok (.getfield 265, 3) := by decide +kernel
theorem dX10_copyState_70 : decode cX10_copyState 70 = .ok (.putfield 265, 3) := by decide +kernel
theorem dX10_copyState_73 : decode cX10_copyState 73 = .ok (.aload_n 1, 1) := by decide +kernel
theorem dX10_copyState_74 : decode cX10_copyState 74 = .ok (.getfield 169, 3) := by decide +kernel
theorem dX10_copyState_77 : decode cX10_copyState 77 = .ok (.aload_n 0, 1) := by decide +kernel
theorem dX10_copyState_78 : decode cX10_copyState 78 = .ok (.getfield 169, 3) := by decide +kernel
theorem dX10_copyState_81 : decode cX10_copyState 81 = .ok (.invokevirtual 371, 3) := by decide +kernel
theorem dX10_copyState_84 : decode cX10_copyState 84 = .ok (.aload_n 1, 1) := by decide +kernel
theorem dX10_copyState_85 : decode cX10_copyState 85 = .ok (.getfield 208, 3) := by decide +kernel
theorem dX10_copyState_88 : decode cX10_copyState 88 = .ok (.aload_n 0, 1) := by decide +kernel
theorem dX10_copyState_89 : decode cX10_copyState 89 = .ok (.getfield 208, 3) := by decide +kernel
theorem dX10_copyState_92 : decode cX10_copyState 92 = .ok (.invokevirtual 374, 3) := by decide +kernel
theorem dX10_copyState_95 : decode cX10_copyState 95 = .ok (.aload_n 1, 1) := by decide +kernel
theorem dX10_copyState_96 : decode cX10_copyState 96 = .ok (.getfield 133, 3) := by decide +kernel
theorem dX10_copyState_99 : decode cX10_copyState 99 = .ok (.aload_n 0, 1) := by decide +kernel
theorem dX10_copyState_100 : decode cX10_copyState 100 = .ok (.getfield 133, 3) := by decide +kernel
theorem dX10_copyState_103 : decode cX10_copyState 103 = .ok (.invokevirtual 377, 3) := by decide +kernel
theorem dX10_copyState_106 : decode cX10_copyState 106 = .ok (.return_, 1) := by decide +kernel
theorem dX10_isIn_0 : decode cX10_isIn 0 = .ok (.iload_n 0, 1) := by decide +kernel
theorem dX10_isIn_1 : decode cX10_isIn 1 = .ok (.iload_n 1, 1) := by decide +kernel
theorem dX10_isIn_2 : decode cX10_isIn 2 = .ok (.ishr, 1) := by decide +kernel
theorem dX10_isIn_3 : decode cX10_isIn 3 = .ok (.iconst 1, 1) := by decide +kernel
theorem dX10_isIn_4 : decode cX10_isIn 4 = .ok (.iand, 1) := by decide +kernel
theorem dX10_isIn_5 : decode cX10_isIn 5 = .ok (.ifCond .eq 7, 3) := by decide +kernel
theorem dX10_isIn_8 : decode cX10_isIn 8 = .ok (.iconst 1, 1) := by decide +kernel
theorem dX10_isIn_9 : decode cX10_isIn 9 = .ok (.goto 4, 3) := by decide +kernel
theorem dX10_isIn_12 : decode cX10_isIn 12 = .ok (.iconst 0, 1) := by decide +kernel
theorem dX10_isIn_13 : decode cX10_isIn 13 = .ok (.ireturn, 1) := by decide +kernel
theorem dX10_copyRow_0 : decode cX10_copyRow 0 = .ok (.aload_n 0, 1) := by decide +kernel
theorem dX10_copyRow_1 : decode cX10_copyRow 1 = .ok (.iconst 0, 1) := by decide +kernel
theorem dX10_copyRow_2 : decode cX10_copyRow 2 = .ok (.aload_n 1, 1) := by decide +kernel
theorem dX10_copyRow_3 : decode cX10_copyRow 3 = .ok (.iconst 0, 1) := by decide +kernel
theorem dX10_copyRow_4 : decode cX10_copyRow 4 = .ok (.aload_n 0, 1) := by decide +kernel
theorem dX10_copyRow_5 : decode cX10_copyRow 5 = .ok (.arraylength, 1) := by decide +kernel
theorem dX10_copyRow_6 : decode cX10_copyRow 6 = .ok (.aload_n 1, 1) := by decide +kernel
theorem dX10_copyRow_7 : decode cX10_copyRow 7 = .ok (.arraylength, 1) := by decide +kernel
theorem dX10_copyRow_8 : decode cX10_copyRow 8 = .ok (.invokestatic 380, 3) := by decide +kernel
theorem dX10_copyRow_11 : decode cX10_copyRow 11 = .ok (.invokestatic 386, 3) := by decide +kernel
theorem dX10_copyRow_14 : decode cX10_copyRow 14 = .ok (.return_, 1) := by decide +kernel
theorem dJ6_bitCount_0f7a4_0 : decode cJ6_bitCount_0f7a4 0 = .ok (.iload_n 0, 1) := by decide +kernel
theorem dJ6_bitCount_0f7a4_1 : decode cJ6_bitCount_0f7a4 1 = .ok (.iload_n 0, 1) := by decide +kernel
theorem dJ6_bitCount_0f7a4_2 : decode cJ6_bitCount_0f7a4 2 = .ok (.iconst 1, 1) := by decide +kernel
theorem dJ6_bitCount_0f7a4_3 : decode cJ6_bitCount_0f7a4 3 = .ok (.iushr, 1) := by decide +kernel
theorem dJ6_bitCount_0f7a4_4 : decode cJ6_bitCount_0f7a4 4 = .ok (.ldc_w 265, 3) := by decide +kernel
theorem dJ6_bitCount_0f7a4_7 : decode cJ6_bitCount_0f7a4 7 = .ok (.iand, 1) := by decide +kernel
theorem dJ6_bitCount_0f7a4_8 : decode cJ6_bitCount_0f7a4 8 = .ok (.isub, 1) := by decide +kernel
theorem dJ6_bitCount_0f7a4_9 : decode cJ6_bitCount_0f7a4 9 = .ok (.istore_n 0, 1) := by decide +kernel
theorem dJ6_bitCount_0f7a4_10 : decode cJ6_bitCount_0f7a4 10 = .ok (.iload_n 0, 1) := by decide +kernel
theorem dJ6_bitCount_0f7a4_11 : decode cJ6_bitCount_0f7a4 11 = .ok (.ldc_w 266, 3) := by decide +kernel
theorem dJ6_bitCount_0f7a4_14 : decode cJ6_bitCount_0f7a4 14 = .ok (.iand, 1) := by decide +kernel
theorem dJ6_bitCount_0f7a4_15 : decode cJ6_bitCount_0f7a4 15 = .ok (.iload_n 0, 1) := by decide +kernel
theorem dJ6_bitCount_0f7a4_16 : decode cJ6_bitCount_0f7a4 16 = .ok (.iconst 2, 1) := by decide +kernel
theorem dJ6_bitCount_0f7a4_17 : decode cJ6_bitCount_0f7a4 17 = .ok (.iushr, 1) := by decide +kernel
theorem dJ6_bitCount_0f7a4_18 : decode cJ6_bitCount_0f7a4 18 = .ok (.ldc_w 266, 3) := by decide +kernel
theorem dJ6_bitCount_0f7a4_21 : decode cJ6_bitCount_0f7a4 21 = .ok (.iand, 1) := by decide +kernel
theorem dJ6_bitCount_0f7a4_22 : decode cJ6_bitCount_0f7a4 22 = .ok (.iadd, 1) := by decide +kernel
theorem dJ6_bitCount_0f7a4_23 : decode cJ6_bitCount_0f7a4 23 = .ok (.istore_n 0, 1) := by decide +kernel
theorem dJ6_bitCount_0f7a4_24 : decode cJ6_bitCount_0f7a4 24 = .ok (.iload_n 0, 1) := by decide +kernel
theorem dJ6_bitCount_0f7a4_25 : decode cJ6_bitCount_0f7a4 25 = .ok (.iload_n 0, 1) := by decide +kernel
theorem dJ6_bitCount_0f7a4_26 : decode cJ6_bitCount_0f7a4 26 = .ok (.iconst 4, 1) := by decide +kernel
theorem dJ6_bitCount_0f7a4_27 : decode cJ6_bitCount_0f7a4 27 = .ok (.iushr, 1) := by decide +kernel
theorem dJ6_bitCount_0f7a4_28 : decode cJ6_bitCount_0f7a4 28 = .ok (.iadd, 1) := by decide +kernel
theorem dJ6_bitCount_0f7a4_29 : decode cJ6_bitCount_0f7a4 29 = .ok (.ldc_w 267, 3) := by decide +kernel
theorem dJ6_bitCount_0f7a4_32 : decode cJ6_bitCount_0f7a4 32 = .ok (.iand, 1) := by decide +kernel
theorem dJ6_bitCount_0f7a4_33 : decode cJ6_bitCount_0f7a4 33 = .ok (.istore_n 0, 1) := by decide +kernel
theorem dJ6_bitCount_0f7a4_34 : decode cJ6_bitCount_0f7a4 34 = .ok (.iload_n 0, 1) := by decide +kernel
theorem dJ6_bitCount_0f7a4_35 : decode cJ6_bitCount_0f7a4 35 = .ok (.iload_n 0, 1) := by decide +kernel
theorem dJ6_bitCount_0f7a4_36 : decode cJ6_bitCount_0f7a4 36 = .ok (.bipush 8, 2) := by decide +kernel
theorem dJ6_bitCount_0f7a4_38 : decode cJ6_bitCount_0f7a4 38 = .ok (.iushr, 1) := by decide +kernel
theorem dJ6_bitCount_0f7a4_39 : decode cJ6_bitCount_0f7a4 39 = .ok (.iadd, 1) := by decide +kernel
theorem dJ6_bitCount_0f7a4_40 : decode cJ6_bitCount_0f7a4 40 = .ok (.istore_n 0, 1) := by decide +kernel
theorem dJ6_bitCount_0f7a4_41 : decode cJ6_bitCount_0f7a4 41 = .ok (.iload_n 0, 1) := by decide +kernel
theorem dJ6_bitCount_0f7a4_42 : decode cJ6_bitCount_0f7a4 42 = .ok (.iload_n 0, 1) := by decide +kernel
theorem dJ6_bitCount_0f7a4_43 : decode cJ6_bitCount_0f7a4 43 = .ok (.bipush 16, 2) := by decide +kernel
theorem dJ6_bitCount_0f7a4_45 : decode cJ6_bitCount_0f7a4 45 = .ok (.iushr, 1) := by decide +kernel
theorem dJ6_bitCount_0f7a4_46 : decode cJ6_bitCount_0f7a4 46 = .ok (.iadd, 1) := by decide +kernel
theorem dJ6_bitCount_0f7a4_47 : decode cJ6_bitCount_0f7a4 47 = .ok (.istore_n 0, 1) := by decide +kernel
theorem dJ6_bitCount_0f7a4_48 : decode cJ6_bitCount_0f7a4 48 = .ok (.iload_n 0, 1) := by decide +kernel
theorem dJ6_bitCount_0f7a4_49 : decode cJ6_bitCount_0f7a4 49 = .ok (.bipush 63, 2) := by decide +kernel
theorem dJ6_bitCount_0f7a4_51 : decode cJ6_bitCount_0f7a4 51 = .ok (.iand, 1) := by decide +kernel
theorem dJ6_bitCount_0f7a4_52 : decode cJ6_bitCount_0f7a4 52 = .ok (.ireturn, 1) := by decide +kernel
theorem dJ9_max_7cf53_0 : decode cJ9_max_7cf53 0 = .ok (.iload_n 0, 1) := by decide +kernel
theorem dJ9_max_7cf53_1 : decode cJ9_max_7cf53 1 = .ok (.iload_n 1, 1) := by decide +kernel
theorem dJ9_max_7cf53_2 : decode cJ9_max_7cf53 2 = .ok (.if_icmp .lt 7, 3) := by decide +kernel
theorem dJ9_max_7cf53_5 : decode cJ9_max_7cf53 5 = .ok (.iload_n 0, 1) := by decide +kernel
theorem dJ9_max_7cf53_6 : decode cJ9_max_7cf53 6 = .ok (.goto 4, 3) := by decide +kernel
theorem dJ9_max_7cf53_9 : decode cJ9_max_7cf53 9 = .ok (.iload_n 1, 1) := by decide +kernel
theorem dJ9_max_7cf53_10 : decode cJ9_max_7cf53 10 = .ok (.ireturn, 1) := by decide +kernel
theorem dJ9_min_7cf53_0 : decode cJ9_min_7cf53 0 = .ok (.iload_n 0, 1) := by decide +kernel
theorem dJ9_min_7cf53_1 : decode cJ9_min_7cf53 1 = .ok (.iload_n 1, 1) := by decide +kernel
theorem dJ9_min_7cf53_2 : decode cJ9_min_7cf53 2 = .ok (.if_icmp .gt 7, 3) := by decide +kernel
theorem dJ9_min_7cf53_5 : decode cJ9_min_7cf53 5 = .ok (.iload_n 0, 1) := by decide +kernel
theorem dJ9_min_7cf53_6 : decode cJ9_min_7cf53 6 = .ok (.goto 4, 3) := by decide +kernel
theorem dJ9_min_7cf53_9 : decode cJ9_min_7cf53 9 = .ok (.iload_n 1, 1) := by decide +kernel
theorem dJ9_min_7cf53_10 : decode cJ9_min_7cf53 10 = .ok (.ireturn, 1) := by decide +kernel
theorem dJ0_length_8abf5_0 : decode cJ0_length_8abf5 0 = .ok (.aload_n 0, 1) := by decide +kernel
theorem dJ0_length_8abf5_1 : decode cJ0_length_8abf5 1 = .ok (.getfield 9, 3) := by decide +kernel
theorem dJ0_length_8abf5_4 : decode cJ0_length_8abf5 4 = .ok (.arraylength, 1) := by decide +kernel
theorem dJ0_length_8abf5_5 : decode cJ0_length_8abf5 5 = .ok (.aload_n 0, 1) := by decide +kernel
theorem dJ0_length_8abf5_6 : decode cJ0_length_8abf5 6 = .ok (.invokevirtual 335, 3) := by decide +kernel
theorem dJ0_length_8abf5_9 : decode cJ0_length_8abf5 9 = .ok (.ishr, 1) := by decide +kernel
theorem dJ0_length_8abf5_10 : decode cJ0_length_8abf5 10 = .ok (.ireturn, 1) := by decide +kernel
theorem dJ0_charAt_5068e_0 : decode cJ0_charAt_5068e 0 = .ok (.aload_n 0, 1) := by decide +kernel
theorem dJ0_charAt_5068e_1 : decode cJ0_charAt_5068e 1 = .ok (.invokevirtual 492, 3) := by decide +kernel
theorem dJ0_charAt_5068e_4 : decode cJ0_charAt_5068e 4 = .ok (.ifCond .eq 12, 3) := by decide +kernel
theorem dJ0_charAt_5068e_7 : decode cJ0_charAt_5068e 7 = .ok (.aload_n 0, 1) := by decide +kernel
theorem dJ0_charAt_5068e_8 : decode cJ0_charAt_5068e 8 = .ok (.getfield 9, 3) := by decide +kernel
theorem dJ0_charAt_5068e_11 : decode cJ0_charAt_5068e 11 = .ok (.iload_n 1, 1) := by decide +kernel
theorem dJ0_charAt_5068e_12 : decode cJ0_charAt_5068e 12 = .ok (.invokestatic 495, 3) := by decide +kernel
theorem dJ0_charAt_5068e_15 : decode cJ0_charAt_5068e 15 = .ok (.ireturn, 1) := by decide +kernel
theorem dJ0_charAt_5068e_16 : decode cJ0_charAt_5068e 16 = .ok (.aload_n 0, 1) := by decide +kernel
theorem dJ0_charAt_5068e_17 : decode cJ0_charAt_5068e 17 = .ok (.getfield 9, 3) := by decide +kernel
theorem dJ0_charAt_5068e_20 : decode cJ0_charAt_5068e 20 = .ok (.iload_n 1, 1) := by decide +kernel
theorem dJ0_charAt_5068e_21 : decode cJ0_charAt_5068e 21 = .ok (.invokestatic 498, 3) := by decide +kernel
theorem dJ0_charAt_5068e_24 : decode cJ0_charAt_5068e 24 = .ok (.ireturn, 1) := by decide +kernel
theorem dJ0_coder_7d493_0 : decode cJ0_coder_7d493 0 = .ok (.getstatic 38, 3) := by decide +kernel
theorem dJ0_coder_7d493_3 : decode cJ0_coder_7d493 3 = .ok (.ifCond .eq 10, 3) := by decide +kernel
theorem dJ0_coder_7d493_6 : decode cJ0_coder_7d493 6 = .ok (.aload_n 0, 1) := by decide +kernel
theorem dJ0_coder_7d493_7 : decode cJ0_coder_7d493 7 = .ok (.getfield 15, 3) := by decide +kernel
theorem dJ0_coder_7d493_10 : decode cJ0_coder_7d493 10 = .ok (.goto 4, 3) := by decide +kernel
theorem dJ0_coder_7d493_13 : decode cJ0_coder_7d493 13 = .ok (.iconst 1, 1) := by decide +kernel
theorem dJ0_coder_7d493_14 : decode cJ0_coder_7d493 14 = .ok (.ireturn, 1) := by decide +kernel
theorem dJ0_isLatin1_aae02_0 : decode cJ0_isLatin1_aae02 0 = .ok (.getstatic 38, 3) := by decide +kernel
theorem dJ0_isLatin1_aae02_3 : decode cJ0_isLatin1_aae02 3 = .ok (.ifCond .eq 14, 3) := by decide +kernel
theorem dJ0_isLatin1_aae02_6 : decode cJ0_isLatin1_aae02 6 = .ok (.aload_n 0, 1) := by decide +kernel
theorem dJ0_isLatin1_aae02_7 : decode cJ0_isLatin1_aae02 7 = .ok (.getfield 15, 3) := by decide +kernel
theorem dJ0_isLatin1_aae02_10 : decode cJ0_isLatin1_aae02 10 = .ok (.ifCond .ne 7, 3) := by decide +kernel
theorem dJ0_isLatin1_aae02_13 : decode cJ0_isLatin1_aae02 13 = .ok (.iconst 1, 1) := by decide +kernel
theorem dJ0_isLatin1_aae02_14 : decode cJ0_isLatin1_aae02 14 = .ok (.goto 4, 3) := by decide +kernel
theorem dJ0_isLatin1_aae02_17 : decode cJ0_isLatin1_aae02 17 = .ok (.iconst 0, 1) := by decide +kernel
theorem dJ0_isLatin1_aae02_18 : decode cJ0_isLatin1_aae02 18 = .ok (.ireturn, 1) := by decide +kernel
theorem dJ0_checkIndex_df160_0 : decode cJ0_checkIndex_df160 0 = .ok (.iload_n 0, 1) := by decide +kernel
theorem dJ0_checkIndex_df160_1 : decode cJ0_checkIndex_df160 1 = .ok (.iload_n 1, 1) := by decide +kernel
theorem dJ0_checkIndex_df160_2 : decode cJ0_checkIndex_df160 2 = .ok (.getstatic 1053, 3) := by decide +kernel
theorem dJ0_checkIndex_df160_5 : decode cJ0_checkIndex_df160 5 = .ok (.invokestatic 1059, 3) := by decide +kernel
theorem dJ0_checkIndex_df160_8 : decode cJ0_checkIndex_df160 8 = .ok (.pop, 1) := by decide +kernel
theorem dJ0_checkIndex_df160_9 : decode cJ0_checkIndex_df160 9 = .ok (.return_, 1) := by decide +kernel
theorem dJ1_charAt_3b067_0 : decode cJ1_charAt_3b067 0 = .ok (.iload_n 1, 1) := by decide +kernel
theorem dJ1_charAt_3b067_1 : decode cJ1_charAt_3b067 1 = .ok (.aload_n 0, 1) := by decide +kernel
theorem dJ1_charAt_3b067_2 : decode cJ1_charAt_3b067 2 = .ok (.arraylength, 1) := by decide +kernel
theorem dJ1_charAt_3b067_3 : decode cJ1_charAt_3b067 3 = .ok (.invokestatic 9, 3) := by decide +kernel
theorem dJ1_charAt_3b067_6 : decode cJ1_charAt_3b067 6 = .ok (.aload_n 0, 1) := by decide +kernel
theorem dJ1_charAt_3b067_7 : decode cJ1_charAt_3b067 7 = .ok (.iload_n 1, 1) := by decide +kernel
theorem dJ1_charAt_3b067_8 : decode cJ1_charAt_3b067 8 = .ok (.baload, 1) := by decide +kernel
theorem dJ1_charAt_3b067_9 : decode cJ1_charAt_3b067 9 = .ok (.sipush 255, 3) := by decide +kernel
theorem dJ1_charAt_3b067_12 : decode cJ1_charAt_3b067 12 = .ok (.iand, 1) := by decide +kernel
theorem dJ1_charAt_3b067_13 : decode cJ1_charAt_3b067 13 = .ok (.i2c, 1) := by decide +kernel
theorem dJ1_charAt_3b067_14 : decode cJ1_charAt_3b067 14 = .ok (.ireturn, 1) := by decide +kernel
theorem dJ2_getChar_3b067_0 : decode cJ2_getChar_3b067 0 = .ok (.getstatic 44, 3) := by decide +kernel
theorem dJ2_getChar_3b067_3 : decode cJ2_getChar_3b067 3 = .ok (.ifCond .ne 25, 3) := by decide +kernel
theorem dJ2_getChar_3b067_6 : decode cJ2_getChar_3b067 6 = .ok (.iload_n 1, 1) := by decide +kernel
theorem dJ2_getChar_3b067_7 : decode cJ2_getChar_3b067 7 = .ok (.ifCond .lt 11, 3) := by decide +kernel
theorem dJ2_getChar_3b067_10 : decode cJ2_getChar_3b067 10 = .ok (.iload_n 1, 1) := by decide +kernel
theorem dJ2_getChar_3b067_11 : decode cJ2_getChar_3b067 11 = .ok (.aload_n 0, 1) := by decide +kernel
theorem dJ2_getChar_3b067_12 : decode cJ2_getChar_3b067 12 = .ok (.invokestatic 48, 3) := by decide +kernel
theorem dJ2_getChar_3b067_15 : decode cJ2_getChar_3b067 15 = .ok (.if_icmp .lt 13, 3) := by decide +kernel
theorem dJ2_getChar_3b067_18 : decode cJ2_getChar_3b067 18 = .ok (.new 52, 3) := by decide +kernel
theorem dJ2_getChar_3b067_21 : decode cJ2_getChar_3b067 21 = .ok (.dup, 1) := by decide +kernel
theorem dJ2_getChar_3b067_22 : decode cJ2_getChar_3b067 22 = .ok (.ldc 54, 2) := by decide +kernel
theorem dJ2_getChar_3b067_24 : decode cJ2_getChar_3b067 24 = .ok (.invokespecial 56, 3) := by decide +kernel
theorem dJ2_getChar_3b067_27 : decode cJ2_getChar_3b067 27 = .ok (.athrow, 1) := by decide +kernel
theorem dJ2_getChar_3b067_28 : decode cJ2_getChar_3b067 28 = .ok (.iload_n 1, 1) := by decide +kernel
theorem dJ2_getChar_3b067_29 : decode cJ2_getChar_3b067 29 = .ok (.iconst 1, 1) := by decide +kernel
theorem dJ2_getChar_3b067_30 : decode cJ2_getChar_3b067 30 = .ok (.ishl, 1) := by decide +kernel
theorem dJ2_getChar_3b067_31 : decode cJ2_getChar_3b067 31 = .ok (.istore_n 1, 1) := by decide +kernel
theorem dJ2_getChar_3b067_32 : decode cJ2_getChar_3b067 32 = .ok (.aload_n 0, 1) := by decide +kernel
theorem dJ2_getChar_3b067_33 : decode cJ2_getChar_3b067 33 = .ok (.iload_n 1, 1) := by decide +kernel
theorem dJ2_getChar_3b067_34 : decode cJ2_getChar_3b067 34 = .ok (.iinc 1 1, 3) := by decide +kernel
theorem dJ2_getChar_3b067_37 : decode cJ2_getChar_3b067 37 = .ok (.baload, 1) := by decide +kernel
theorem dJ2_getChar_3b067_38 : decode cJ2_getChar_3b067 38 = .ok (.sipush 255, 3) := by decide +kernel
theorem dJ2_getChar_3b067_41 : decode cJ2_getChar_3b067 41 = .ok (.iand, 1) := by decide +kernel
theorem dJ2_getChar_3b067_42 : decode cJ2_getChar_3b067 42 = .ok (.getstatic 59, 3) := by decide +kernel
theorem dJ2_getChar_3b067_45 : decode cJ2_getChar_3b067 45 = .ok (.ishl, 1) := by decide +kernel
theorem dJ2_getChar_3b067_46 : decode cJ2_getChar_3b067 46 = .ok (.aload_n 0, 1) := by decide +kernel
theorem dJ2_getChar_3b067_47 : decode cJ2_getChar_3b067 47 = .ok (.iload_n 1, 1) := by decide +kernel
theorem dJ2_getChar_3b067_48 : decode cJ2_getChar_3b067 48 = .ok (.baload, 1) := by decide +kernel
theorem dJ2_getChar_3b067_49 : decode cJ2_getChar_3b067 49 = .ok (.sipush 255, 3) := by decide +kernel
theorem dJ2_getChar_3b067_52 : decode cJ2_getChar_3b067 52 = .ok (.iand, 1) := by decide +kernel
theorem dJ2_getChar_3b067_53 : decode cJ2_getChar_3b067 53 = .ok (.getstatic 63, 3) := by decide +kernel
theorem dJ2_getChar_3b067_56 : decode cJ2_getChar_3b067 56 = .ok (.ishl, 1) := by decide +kernel
theorem dJ2_getChar_3b067_57 : decode cJ2_getChar_3b067 57 = .ok (.ior, 1) := by decide +kernel
theorem dJ2_getChar_3b067_58 : decode cJ2_getChar_3b067 58 = .ok (.i2c, 1) := by decide +kernel
theorem dJ2_getChar_3b067_59 : decode cJ2_getChar_3b067 59 = .ok (.ireturn, 1) := by decide +kernel
theorem dJ2_length_9d52b_0 : decode cJ2_length_9d52b 0 = .ok (.aload_n 0, 1) := by decide +kernel
theorem dJ2_length_9d52b_1 : decode cJ2_length_9d52b 1 = .ok (.arraylength, 1) := by decide +kernel
theorem dJ2_length_9d52b_2 : decode cJ2_length_9d52b 2 = .ok (.iconst 1, 1) := by decide +kernel
theorem dJ2_length_9d52b_3 : decode cJ2_length_9d52b 3 = .ok (.ishr, 1) := by decide +kernel
theorem dJ2_length_9d52b_4 : decode cJ2_length_9d52b 4 = .ok (.ireturn, 1) := by decide +kernel
theorem dJ2_charAt_3b067_0 : decode cJ2_charAt_3b067 0 = .ok (.iload_n 1, 1) := by decide +kernel
theorem dJ2_charAt_3b067_1 : decode cJ2_charAt_3b067 1 = .ok (.aload_n 0, 1) := by decide +kernel
theorem dJ2_charAt_3b067_2 : decode cJ2_charAt_3b067 2 = .ok (.invokestatic 67, 3) := by decide +kernel
theorem dJ2_charAt_3b067_5 : decode cJ2_charAt_3b067 5 = .ok (.aload_n 0, 1) := by decide +kernel
theorem dJ2_charAt_3b067_6 : decode cJ2_charAt_3b067 6 = .ok (.iload_n 1, 1) := by decide +kernel
theorem dJ2_charAt_3b067_7 : decode cJ2_charAt_3b067 7 = .ok (.invokestatic 71, 3) := by decide +kernel
theorem dJ2_charAt_3b067_10 : decode cJ2_charAt_3b067 10 = .ok (.ireturn, 1) := by decide +kernel
theorem dJ2_checkIndex_2214a_0 : decode cJ2_checkIndex_2214a 0 = .ok (.iload_n 0, 1) := by decide +kernel
theorem dJ2_checkIndex_2214a_1 : decode cJ2_checkIndex_2214a 1 = .ok (.aload_n 1, 1) := by decide +kernel
theorem dJ2_checkIndex_2214a_2 : decode cJ2_checkIndex_2214a 2 = .ok (.invokestatic 48, 3) := by decide +kernel
theorem dJ2_checkIndex_2214a_5 : decode cJ2_checkIndex_2214a 5 = .ok (.invokestatic 414, 3) := by decide +kernel
theorem dJ2_checkIndex_2214a_8 : decode cJ2_checkIndex_2214a 8 = .ok (.return_, 1) := by decide +kernel
theorem dJ7_fill_53178_0 : decode cJ7_fill_53178 0 = .ok (.iconst 0, 1) := by decide +kernel
theorem dJ7_fill_53178_1 : decode cJ7_fill_53178 1 = .ok (.istore_n 2, 1) := by decide +kernel
theorem dJ7_fill_53178_2 : decode cJ7_fill_53178 2 = .ok (.aload_n 0, 1) := by decide +kernel
theorem dJ7_fill_53178_3 : decode cJ7_fill_53178 3 = .ok (.arraylength, 1) := by decide +kernel
theorem dJ7_fill_53178_4 : decode cJ7_fill_53178 4 = .ok (.istore_n 3, 1) := by decide +kernel
theorem dJ7_fill_53178_5 : decode cJ7_fill_53178 5 = .ok (.iload_n 2, 1) := by decide +kernel
theorem dJ7_fill_53178_6 : decode cJ7_fill_53178 6 = .ok (.iload_n 3, 1) := by decide +kernel
theorem dJ7_fill_53178_7 : decode cJ7_fill_53178 7 = .ok (.if_icmp .ge 13, 3) := by decide +kernel
theorem dJ7_fill_53178_10 : decode cJ7_fill_53178 10 = .ok (.aload_n 0, 1) := by decide +kernel
theorem dJ7_fill_53178_11 : decode cJ7_fill_53178 11 = .ok (.iload_n 2, 1) := by decide +kernel
theorem dJ7_fill_53178_12 : decode cJ7_fill_53178 12 = .ok (.iload_n 1, 1) := by decide +kernel
theorem dJ7_fill_53178_13 : decode cJ7_fill_53178 13 = .ok (.iastore, 1) := by decide +kernel
theorem dJ7_fill_53178_14 : decode cJ7_fill_53178 14 = .ok (.iinc 2 1, 3) := by decide +kernel
theorem dJ7_fill_53178_17 : decode cJ7_fill_53178 17 = .ok (.goto (-12), 3) := by decide +kernel
theorem dJ7_fill_53178_20 : decode cJ7_fill_53178 20 = .ok (.return_, 1) := by decide +kernel
theorem dJ3_checkIndex_8e157_0 : decode cJ3_checkIndex_8e157 0 = .ok (.iload_n 0, 1) := by decide +kernel
theorem dJ3_checkIndex_8e157_1 : decode cJ3_checkIndex_8e157 1 = .ok (.ifCond .lt 8, 3) := by decide +kernel
theorem dJ3_checkIndex_8e157_4 : decode cJ3_checkIndex_8e157 4 = .ok (.iload_n 0, 1) := by decide +kernel
theorem dJ3_checkIndex_8e157_5 : decode cJ3_checkIndex_8e157 5 = .ok (.iload_n 1, 1) := by decide +kernel
theorem dJ3_checkIndex_8e157_6 : decode cJ3_checkIndex_8e157 6 = .ok (.if_icmp .lt 10, 3) := by decide +kernel
theorem dJ3_checkIndex_8e157_9 : decode cJ3_checkIndex_8e157 9 = .ok (.aload_n 2, 1) := by decide +kernel
theorem dJ3_checkIndex_8e157_10 : decode cJ3_checkIndex_8e157 10 = .ok (.iload_n 0, 1) := by decide +kernel
theorem dJ3_checkIndex_8e157_11 : decode cJ3_checkIndex_8e157 11 = .ok (.iload_n 1, 1) := by decide +kernel
theorem dJ3_checkIndex_8e157_12 : decode cJ3_checkIndex_8e157 12 = .ok (.invokestatic 95, 3) := by decide +kernel
theorem dJ3_checkIndex_8e157_15 : decode cJ3_checkIndex_8e157 15 = .ok (.athrow, 1) := by decide +kernel
theorem dJ3_checkIndex_8e157_16 : decode cJ3_checkIndex_8e157 16 = .ok (.iload_n 0, 1) := by decide +kernel
theorem dJ3_checkIndex_8e157_17 : decode cJ3_checkIndex_8e157 17 = .ok (.ireturn, 1) := by decide +kernel
