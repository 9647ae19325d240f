theorem dX10_init_0 : decode cX10_init 0 = .ok (.aload_n 0, 1) := by decide +kernel
theorem dX10_init_1 : decode cX10_init 1 = .ok (.invokespecial 1, 3) := by decide +kernel
theorem dX10_init_4 : decode cX10_init 4 = .ok (.aload_n 0, 1) := by decide +kernel
theorem dX10_init_5 : decode cX10_init 5 = .ok (.sipush 150, 3) := by decide +kernel
theorem dX10_init_8 : decode cX10_init 8 = .ok (.newarray .byte, 2) := by decide +kernel
theorem dX10_init_10 : decode cX10_init 10 = .ok (.putfield 7, 3) := by decide +kernel
theorem dX10_init_13 : decode cX10_init 13 = .ok (.aload_n 0, 1) := by decide +kernel
theorem dX10_init_14 : decode cX10_init 14 = .ok (.iconst 2, 1) := by decide +kernel
theorem dX10_init_15 : decode cX10_init 15 = .ok (.newarray .int, 2) := by decide +kernel
theorem dX10_init_17 : decode cX10_init 17 = .ok (.putfield 13, 3) := by decide +kernel
theorem dX10_init_20 : decode cX10_init 20 = .ok (.aload_n 0, 1) := by decide +kernel
theorem dX10_init_21 : decode cX10_init 21 = .ok (.iconst 2, 1) := by decide +kernel
theorem dX10_init_22 : decode cX10_init 22 = .ok (.newarray .int, 2) := by decide +kernel
theorem dX10_init_24 : decode cX10_init 24 = .ok (.putfield 17, 3) := by decide +kernel
theorem dX10_init_27 : decode cX10_init 27 = .ok (.aload_n 0, 1) := by decide +kernel
theorem dX10_init_28 : decode cX10_init 28 = .ok (.bipush 48, 2) := by decide +kernel
theorem dX10_init_30 : decode cX10_init 30 = .ok (.newarray .int, 2) := by decide +kernel
theorem dX10_init_32 : decode cX10_init 32 = .ok (.putfield 20, 3) := by decide +kernel
theorem dX10_init_35 : decode cX10_init 35 = .ok (.aload_n 0, 1) := by decide +kernel
theorem dX10_init_36 : decode cX10_init 36 = .ok (.bipush 24, 2) := by decide +kernel
theorem dX10_init_38 : decode cX10_init 38 = .ok (.newarray .int, 2) := by decide +kernel
theorem dX10_init_40 : decode cX10_init 40 = .ok (.putfield 23, 3) := by decide +kernel
theorem dX10_init_43 : decode cX10_init 43 = .ok (.aload_n 0, 1) := by decide +kernel
theorem dX10_init_44 : decode cX10_init 44 = .ok (.iconst 2, 1) := by decide +kernel
theorem dX10_init_45 : decode cX10_init 45 = .ok (.newarray .int, 2) := by decide +kernel
theorem dX10_init_47 : decode cX10_init 47 = .ok (.putfield 26, 3) := by decide +kernel
theorem dX10_init_50 : decode cX10_init 50 = .ok (.aload_n 0, 1) := by decide +kernel
theorem dX10_init_51 : decode cX10_init 51 = .ok (.bipush 12, 2) := by decide +kernel
theorem dX10_init_53 : decode cX10_init 53 = .ok (.newarray .int, 2) := by decide +kernel
theorem dX10_init_55 : decode cX10_init 55 = .ok (.putfield 29, 3) := by decide +kernel
theorem dX10_init_58 : decode cX10_init 58 = .ok (.aload_n 0, 1) := by decide +kernel
theorem dX10_init_59 : decode cX10_init 59 = .ok (.bipush 12, 2) := by decide +kernel
theorem dX10_init_61 : decode cX10_init 61 = .ok (.newarray .int, 2) := by decide +kernel
theorem dX10_init_63 : decode cX10_init 63 = .ok (.putfield 32, 3) := by decide +kernel
theorem dX10_init_66 : decode cX10_init 66 = .ok (.aload_n 0, 1) := by decide +kernel
theorem dX10_init_67 : decode cX10_init 67 = .ok (.bipush 64, 2) := by decide +kernel
theorem dX10_init_69 : decode cX10_init 69 = .ok (.newarray .int, 2) := by decide +kernel
theorem dX10_init_71 : decode cX10_init 71 = .ok (.putfield 35, 3) := by decide +kernel
theorem dX10_init_74 : decode cX10_init 74 = .ok (.aload_n 0, 1) := by decide +kernel
theorem dX10_init_75 : decode cX10_init 75 = .ok (.sipush 564, 3) := by decide +kernel
theorem dX10_init_78 : decode cX10_init 78 = .ok (.newarray .int, 2) := by decide +kernel
theorem dX10_init_80 : decode cX10_init 80 = .ok (.putfield 38, 3) := by decide +kernel
theorem dX10_init_83 : decode cX10_init 83 = .ok (.aload_n 0, 1) := by decide +kernel
theorem dX10_init_84 : decode cX10_init 84 = .ok (.iconst 2, 1) := by decide +kernel
theorem dX10_init_85 : decode cX10_init 85 = .ok (.newarray .boolean, 2) := by decide +kernel
theorem dX10_init_87 : decode cX10_init 87 = .ok (.putfield 41, 3) := by decide +kernel
theorem dX10_init_90 : decode cX10_init 90 = .ok (.aload_n 0, 1) := by decide +kernel
theorem dX10_init_91 : decode cX10_init 91 = .ok (.bipush 17, 2) := by decide +kernel
theorem dX10_init_93 : decode cX10_init 93 = .ok (.newarray .int, 2) := by decide +kernel
theorem dX10_init_95 : decode cX10_init 95 = .ok (.putfield 45, 3) := by decide +kernel
theorem dX10_init_98 : decode cX10_init 98 = .ok (.aload_n 0, 1) := by decide +kernel
theorem dX10_init_99 : decode cX10_init 99 = .ok (.bipush 6, 2) := by decide +kernel
theorem dX10_init_101 : decode cX10_init 101 = .ok (.newarray .int, 2) := by decide +kernel
theorem dX10_init_103 : decode cX10_init 103 = .ok (.putfield 48, 3) := by decide +kernel
theorem dX10_init_106 : decode cX10_init 106 = .ok (.aload_n 0, 1) := by decide +kernel
theorem dX10_init_107 : decode cX10_init 107 = .ok (.bipush 6, 2) := by decide +kernel
theorem dX10_init_109 : decode cX10_init 109 = .ok (.newarray .int, 2) := by decide +kernel
theorem dX10_init_111 : decode cX10_init 111 = .ok (.putfield 51, 3) := by decide +kernel
theorem dX10_init_114 : decode cX10_init 114 = .ok (.aload_n 0, 1) := by decide +kernel
theorem dX10_init_115 : decode cX10_init 115 = .ok (.bipush 6, 2) := by decide +kernel
theorem dX10_init_117 : decode cX10_init 117 = .ok (.newarray .int, 2) := by decide +kernel
theorem dX10_init_119 : decode cX10_init 119 = .ok (.putfield 54, 3) := by decide +kernel
theorem dX10_init_122 : decode cX10_init 122 = .ok (.aload_n 0, 1) := by decide +kernel
theorem dX10_init_123 : decode cX10_init 123 = .ok (.bipush 6, 2) := by decide +kernel
theorem dX10_init_125 : decode cX10_init 125 = .ok (.newarray .int, 2) := by decide +kernel
theorem dX10_init_127 : decode cX10_init 127 = .ok (.putfield 57, 3) := by decide +kernel
theorem dX10_init_130 : decode cX10_init 130 = .ok (.aload_n 0, 1) := by decide +kernel
theorem dX10_init_131 : decode cX10_init 131 = .ok (.bipush 6, 2) := by decide +kernel
theorem dX10_init_133 : decode cX10_init 133 = .ok (.newarray .int, 2) := by decide +kernel
theorem dX10_init_135 : decode cX10_init 135 = .ok (.putfield 60, 3) := by decide +kernel
theorem dX10_init_138 : decode cX10_init 138 = .ok (.aload_n 0, 1) := by decide +kernel
theorem dX10_init_139 : decode cX10_init 139 = .ok (.bipush 6, 2) := by decide +kernel
theorem dX10_init_141 : decode cX10_init 141 = .ok (.newarray .int, 2) := by decide +kernel
theorem dX10_init_143 : decode cX10_init 143 = .ok (.putfield 63, 3) := by decide +kernel
theorem dX10_init_146 : decode cX10_init 146 = .ok (.aload_n 0, 1) := by decide +kernel
theorem dX10_init_147 : decode cX10_init 147 = .ok (.bipush 6, 2) := by decide +kernel
theorem dX10_init_149 : decode cX10_init 149 = .ok (.newarray .int, 2) := by decide +kernel
theorem dX10_init_151 : decode cX10_init 151 = .ok (.putfield 66, 3) := by decide +kernel
theorem dX10_init_154 : decode cX10_init 154 = .ok (.aload_n 0, 1) := by decide +kernel
theorem dX10_init_155 : decode cX10_init 155 = .ok (.invokevirtual 69, 3) := by decide +kernel
theorem dX10_init_158 : decode cX10_init 158 = .ok (.aload_n 0, 1) := by decide +kernel
theorem dX10_init_159 : decode cX10_init 159 = .ok (.invokevirtual 72, 3) := by decide +kernel
theorem dX10_init_162 : decode cX10_init 162 = .ok (.return_, 1) := by decide +kernel
theorem dX10_in_0 : decode cX10_in 0 = .ok (.iload_n 0, 1) := by decide +kernel
theorem dX10_in_1 : decode cX10_in 1 = .ok (.iload_n 1, 1) := by decide +kernel
theorem dX10_in_2 : decode cX10_in 2 = .ok (.if_icmp .lt 12, 3) := by decide +kernel
theorem dX10_in_5 : decode cX10_in 5 = .ok (.iload_n 0, 1) := by decide +kernel
theorem dX10_in_6 : decode cX10_in 6 = .ok (.iload_n 2, 1) := by decide +kernel
theorem dX10_in_7 : decode cX10_in 7 = .ok (.if_icmp .gt 7, 3) := by decide +kernel
theorem dX10_in_10 : decode cX10_in 10 = .ok (.iconst 1, 1) := by decide +kernel
theorem dX10_in_11 : decode cX10_in 11 = .ok (.goto 4, 3) := by decide +kernel
theorem dX10_in_14 : decode cX10_in 14 = .ok (.iconst 0, 1) := by decide +kernel
theorem dX10_in_15 : decode cX10_in 15 = .ok (.ireturn, 1) := by decide +kernel
theorem dX10_type_0 : decode cX10_type 0 = .ok (.iload_n 1, 1) := by decide +kernel
theorem dX10_type_1 : decode cX10_type 1 = .ok (.iconst 0, 1) := by decide +kernel
theorem dX10_type_2 : decode cX10_type 2 = .ok (.sipush 255, 3) := by decide +kernel
theorem dX10_type_5 : decode cX10_type 5 = .ok (.invokestatic 75, 3) := by decide +kernel
theorem dX10_type_8 : decode cX10_type 8 = .ok (.ifCond .ne 5, 3) := by decide +kernel
theorem dX10_type_11 : decode cX10_type 11 = .ok (.iconst (-1), 1) := by decide +kernel
theorem dX10_type_12 : decode cX10_type 12 = .ok (.ireturn, 1) := by decide +kernel
theorem dX10_type_13 : decode cX10_type 13 = .ok (.aload_n 0, 1) := by decide +kernel
theorem dX10_type_14 : decode cX10_type 14 = .ok (.getfield 79, 3) := by decide +kernel
theorem dX10_type_17 : decode cX10_type 17 = .ok (.sipush 150, 3) := by decide +kernel
theorem dX10_type_20 : decode cX10_type 20 = .ok (.if_icmp .ne 6, 3) := by decide +kernel
theorem dX10_type_23 : decode cX10_type 23 = .ok (.bipush (-3), 2) := by decide +kernel
theorem dX10_type_25 : decode cX10_type 25 = .ok (.ireturn, 1) := by decide +kernel
theorem dX10_type_26 : decode cX10_type 26 = .ok (.aload_n 0, 1) := by decide +kernel
theorem dX10_type_27 : decode cX10_type 27 = .ok (.getfield 7, 3) := by decide +kernel
theorem dX10_type_30 : decode cX10_type 30 = .ok (.aload_n 0, 1) := by decide +kernel
theorem dX10_type_31 : decode cX10_type 31 = .ok (.getfield 79, 3) := by decide +kernel
theorem dX10_type_34 : decode cX10_type 34 = .ok (.iload_n 1, 1) := by decide +kernel
theorem dX10_type_35 : decode cX10_type 35 = .ok (.i2b, 1) := by decide +kernel
theorem dX10_type_36 : decode cX10_type 36 = .ok (.bastore, 1) := by decide +kernel
theorem dX10_type_37 : decode cX10_type 37 = .ok (.aload_n 0, 1) := by decide +kernel
theorem dX10_type_38 : decode cX10_type 38 = .ok (.dup, 1) := by decide +kernel
theorem dX10_type_39 : decode cX10_type 39 = .ok (.getfield 79, 3) := by decide +kernel
theorem dX10_type_42 : decode cX10_type 42 = .ok (.iconst 1, 1) := by decide +kernel
theorem dX10_type_43 : decode cX10_type 43 = .ok (.iadd, 1) := by decide +kernel
theorem dX10_type_44 : decode cX10_type 44 = .ok (.putfield 79, 3) := by decide +kernel
theorem dX10_type_47 : decode cX10_type 47 = .ok (.aload_n 0, 1) := by decide +kernel
theorem dX10_type_48 : decode cX10_type 48 = .ok (.getfield 79, 3) := by decide +kernel
theorem dX10_type_51 : decode cX10_type 51 = .ok (.ireturn, 1) := by decide +kernel
theorem dX10_clear_0 : decode cX10_clear 0 = .ok (.aload_n 0, 1) := by decide +kernel
theorem dX10_clear_1 : decode cX10_clear 1 = .ok (.getfield 79, 3) := by decide +kernel
theorem dX10_clear_4 : decode cX10_clear 4 = .ok (.istore_n 1, 1) := by decide +kernel
theorem dX10_clear_5 : decode cX10_clear 5 = .ok (.aload_n 0, 1) := by decide +kernel
theorem dX10_clear_6 : decode cX10_clear 6 = .ok (.iconst 0, 1) := by decide +kernel
theorem dX10_clear_7 : decode cX10_clear 7 = .ok (.putfield 79, 3) := by decide +kernel
theorem dX10_clear_10 : decode cX10_clear 10 = .ok (.iload_n 1, 1) := by decide +kernel
theorem dX10_clear_11 : decode cX10_clear 11 = .ok (.ireturn, 1) := by decide +kernel
theorem dX10_here_0 : decode cX10_here 0 = .ok (.aload_n 0, 1) := by decide +kernel
theorem dX10_here_1 : decode cX10_here 1 = .ok (.getfield 83, 3) := by decide +kernel
theorem dX10_here_4 : decode cX10_here 4 = .ok (.aload_n 0, 1) := by decide +kernel
theorem dX10_here_5 : decode cX10_here 5 = .ok (.getfield 79, 3) := by decide +kernel
theorem dX10_here_8 : decode cX10_here 8 = .ok (.if_icmp .ge 19, 3) := by decide +kernel
theorem dX10_here_11 : decode cX10_here 11 = .ok (.aload_n 0, 1) := by decide +kernel
theorem dX10_here_12 : decode cX10_here 12 = .ok (.getfield 7, 3) := by decide +kernel
theorem dX10_here_15 : decode cX10_here 15 = .ok (.aload_n 0, 1) := by decide +kernel
theorem dX10_here_16 : decode cX10_here 16 = .ok (.getfield 83, 3) := by decide +kernel
theorem dX10_here_19 : decode cX10_here 19 = .ok (.baload, 1) := by decide +kernel
theorem dX10_here_20 : decode cX10_here 20 = .ok (.sipush 255, 3) := by decide +kernel
theorem dX10_here_23 : decode cX10_here 23 = .ok (.iand, 1) := by decide +kernel
theorem dX10_here_24 : decode cX10_here 24 = .ok (.goto 4, 3) := by decide +kernel
theorem dX10_here_27 : decode cX10_here 27 = .ok (.iconst (-1), 1) := by decide +kernel
theorem dX10_here_28 : decode cX10_here 28 = .ok (.ireturn, 1) := by decide +kernel
theorem dX10_step_0 : decode cX10_step 0 = .ok (.aload_n 0, 1) := by decide +kernel
theorem dX10_step_1 : decode cX10_step 1 = .ok (.invokevirtual 86, 3) := by decide +kernel
theorem dX10_step_4 : decode cX10_step 4 = .ok (.bipush 32, 2) := by decide +kernel
theorem dX10_step_6 : decode cX10_step 6 = .ok (.if_icmp .ne 16, 3) := by decide +kernel
theorem dX10_step_9 : decode cX10_step 9 = .ok (.aload_n 0, 1) := by decide +kernel
theorem dX10_step_10 : decode cX10_step 10 = .ok (.dup, 1) := by decide +kernel
theorem dX10_step_11 : decode cX10_step 11 = .ok (.getfield 83, 3) := by decide +kernel
theorem dX10_step_14 : decode cX10_step 14 = .ok (.iconst 1, 1) := by decide +kernel
theorem dX10_step_15 : decode cX10_step 15 = .ok (.iadd, 1) := by decide +kernel
theorem dX10_step_16 : decode cX10_step 16 = .ok (.putfield 83, 3) := by decide +kernel
theorem dX10_step_19 : decode cX10_step 19 = .ok (.goto (-19), 3) := by decide +kernel
theorem dX10_step_22 : decode cX10_step 22 = .ok (.aload_n 0, 1) := by decide +kernel
theorem dX10_step_23 : decode cX10_step 23 = .ok (.aload_n 0, 1) := by decide +kernel
theorem dX10_step_24 : decode cX10_step 24 = .ok (.getfield 83, 3) := by decide +kernel
theorem dX10_step_27 : decode cX10_step 27 = .ok (.putfield 90, 3) := by decide +kernel
theorem dX10_step_30 : decode cX10_step 30 = .ok (.aload_n 0, 1) := by decide +kernel
theorem dX10_step_31 : decode cX10_step 31 = .ok (.iconst 0, 1) := by decide +kernel
theorem dX10_step_32 : decode cX10_step 32 = .ok (.putfield 93, 3) := by decide +kernel
theorem dX10_step_35 : decode cX10_step 35 = .ok (.aload_n 0, 1) := by decide +kernel
theorem dX10_step_36 : decode cX10_step 36 = .ok (.invokevirtual 86, 3) := by decide +kernel
theorem dX10_step_39 : decode cX10_step 39 = .ok (.istore_n 1, 1) := by decide +kernel
theorem dX10_step_40 : decode cX10_step 40 = .ok (.iload_n 1, 1) := by decide +kernel
theorem dX10_step_41 : decode cX10_step 41 = .ok (.ifCond .ge 11, 3) := by decide +kernel
theorem dX10_step_44 : decode cX10_step 44 = .ok (.aload_n 0, 1) := by decide +kernel
theorem dX10_step_45 : decode cX10_step 45 = .ok (.iconst 3, 1) := by decide +kernel
theorem dX10_step_46 : decode cX10_step 46 = .ok (.putfield 96, 3) := by decide +kernel
theorem dX10_step_49 : decode cX10_step 49 = .ok (.goto 204, 3) := by decide +kernel
theorem dX10_step_52 : decode cX10_step 52 = .ok (.iload_n 1, 1) := by decide +kernel
theorem dX10_step_53 : decode cX10_step 53 = .ok (.bipush 97, 2) := by decide +kernel
theorem dX10_step_55 : decode cX10_step 55 = .ok (.bipush 122, 2) := by decide +kernel
theorem dX10_step_57 : decode cX10_step 57 = .ok (.invokestatic 75, 3) := by decide +kernel
theorem dX10_step_60 : decode cX10_step 60 = .ok (.ifCond .eq 55, 3) := by decide +kernel
theorem dX10_step_63 : decode cX10_step 63 = .ok (.aload_n 0, 1) := by decide +kernel
theorem dX10_step_64 : decode cX10_step 64 = .ok (.invokevirtual 86, 3) := by decide +kernel
theorem dX10_step_67 : decode cX10_step 67 = .ok (.bipush 97, 2) := by decide +kernel
theorem dX10_step_69 : decode cX10_step 69 = .ok (.bipush 122, 2) := by decide +kernel
theorem dX10_step_71 : decode cX10_step 71 = .ok (.invokestatic 75, 3) := by decide +kernel
theorem dX10_step_74 : decode cX10_step 74 = .ok (.ifCond .eq 16, 3) := by decide +kernel
theorem dX10_step_77 : decode cX10_step 77 = .ok (.aload_n 0, 1) := by decide +kernel
theorem dX10_step_78 : decode cX10_step 78 = .ok (.dup, 1) := by decide +kernel
theorem dX10_step_79 : decode cX10_step 79 = .ok (.getfield 83, 3) := by decide +kernel
theorem dX10_step_82 : decode cX10_step 82 = .ok (.iconst 1, 1) := by decide +kernel
theorem dX10_step_83 : decode cX10_step 83 = .ok (.iadd, 1) := by decide +kernel
theorem dX10_step_84 : decode cX10_step 84 = .ok (.putfield 83, 3) := by decide +kernel
theorem dX10_step_87 : decode cX10_step 87 = .ok (.goto (-24), 3) := by decide +kernel
theorem dX10_step_90 : decode cX10_step 90 = .ok (.aload_n 0, 1) := by decide +kernel
theorem dX10_step_91 : decode cX10_step 91 = .ok (.aload_n 0, 1) := by decide +kernel
theorem dX10_step_92 : decode cX10_step 92 = .ok (.getfield 83, 3) := by decide +kernel
theorem dX10_step_95 : decode cX10_step 95 = .ok (.aload_n 0, 1) := by decide +kernel
theorem dX10_step_96 : decode cX10_step 96 = .ok (.getfield 90, 3) := by decide +kernel
theorem dX10_step_99 : decode cX10_step 99 = .ok (.isub, 1) := by decide +kernel
theorem dX10_step_100 : decode cX10_step 100 = .ok (.iconst 1, 1) := by decide +kernel
theorem dX10_step_101 : decode cX10_step 101 = .ok (.if_icmp .ne 7, 3) := by decide +kernel
theorem dX10_step_104 : decode cX10_step 104 = .ok (.iload_n 1, 1) := by decide +kernel
theorem dX10_step_105 : decode cX10_step 105 = .ok (.goto 4, 3) := by decide +kernel
theorem dX10_step_108 : decode cX10_step 108 = .ok (.iconst 4, 1) := by decide +kernel
theorem dX10_step_109 : decode cX10_step 109 = .ok (.putfield 96, 3) := by decide +kernel
theorem dX10_step_112 : decode cX10_step 112 = .ok (.goto 141, 3) := by decide +kernel
theorem dX10_step_115 : decode cX10_step 115 = .ok (.iload_n 1, 1) := by decide +kernel
theorem dX10_step_116 : decode cX10_step 116 = .ok (.bipush 48, 2) := by decide +kernel
theorem dX10_step_118 : decode cX10_step 118 = .ok (.bipush 57, 2) := by decide +kernel
theorem dX10_step_120 : decode cX10_step 120 = .ok (.invokestatic 75, 3) := by decide +kernel
theorem dX10_step_123 : decode cX10_step 123 = .ok (.ifCond .eq 105, 3) := by decide +kernel
theorem dX10_step_126 : decode cX10_step 126 = .ok (.aload_n 0, 1) := by decide +kernel
theorem dX10_step_127 : decode cX10_step 127 = .ok (.invokevirtual 86, 3) := by decide +kernel
theorem dX10_step_130 : decode cX10_step 130 = .ok (.bipush 48, 2) := by decide +kernel
theorem dX10_step_132 : decode cX10_step 132 = .ok (.bipush 57, 2) := by decide +kernel
theorem dX10_step_134 : decode cX10_step 134 = .ok (.invokestatic 75, 3) := by decide +kernel
theorem dX10_step_137 : decode cX10_step 137 = .ok (.ifCond .eq 51, 3) := by decide +kernel
theorem dX10_step_140 : decode cX10_step 140 = .ok (.aload_n 0, 1) := by decide +kernel
theorem dX10_step_141 : decode cX10_step 141 = .ok (.aload_n 0, 1) := by decide +kernel
theorem dX10_step_142 : decode cX10_step 142 = .ok (.getfield 93, 3) := by decide +kernel
theorem dX10_step_145 : decode cX10_step 145 = .ok (.bipush 99, 2) := by decide +kernel
theorem dX10_step_147 : decode cX10_step 147 = .ok (.if_icmp .le 10, 3) := by decide +kernel
theorem dX10_step_150 : decode cX10_step 150 = .ok (.aload_n 0, 1) := by decide +kernel
theorem dX10_step_151 : decode cX10_step 151 = .ok (.getfield 93, 3) := by decide +kernel
theorem dX10_step_154 : decode cX10_step 154 = .ok (.goto 18, 3) := by decide +kernel
theorem dX10_step_157 : decode cX10_step 157 = .ok (.bipush 10, 2) := by decide +kernel
theorem dX10_step_159 : decode cX10_step 159 = .ok (.aload_n 0, 1) := by decide +kernel
theorem dX10_step_160 : decode cX10_step 160 = .ok (.getfield 93, 3) := by decide +kernel
theorem dX10_step_163 : decode cX10_step 163 = .ok (.imul, 1) := by decide +kernel
theorem dX10_step_164 : decode cX10_step 164 = .ok (.aload_n 0, 1) := by decide +kernel
theorem dX10_step_165 : decode cX10_step 165 = .ok (.invokevirtual 86, 3) := by decide +kernel
theorem dX10_step_168 : decode cX10_step 168 = .ok (.iadd, 1) := by decide +kernel
theorem dX10_step_169 : decode cX10_step 169 = .ok (.bipush 48, 2) := by decide +kernel
theorem dX10_step_171 : decode cX10_step 171 = .ok (.isub, 1) := by decide +kernel
theorem dX10_step_172 : decode cX10_step 172 = .ok (.putfield 93, 3) := by decide +kernel
theorem dX10_step_175 : decode cX10_step 175 = .ok (.aload_n 0, 1) := by decide +kernel
theorem dX10_step_176 : decode cX10_step 176 = .ok (.dup, 1) := by decide +kernel
theorem dX10_step_177 : decode cX10_step 177 = .ok (.getfield 83, 3) := by decide +kernel
theorem dX10_step_180 : decode cX10_step 180 = .ok (.iconst 1, 1) := by decide +kernel
theorem dX10_step_181 : decode cX10_step 181 = .ok (.iadd, 1) := by decide +kernel
theorem dX10_step_182 : decode cX10_step 182 = .ok (.putfield 83, 3) := by decide +kernel
theorem dX10_step_185 : decode cX10_step 185 = .ok (.goto (-59), 3) := by decide +kernel
theorem dX10_step_188 : decode cX10_step 188 = .ok (.aload_n 0, 1) := by decide +kernel
theorem dX10_step_189 : decode cX10_step 189 = .ok (.aload_n 0, 1) := by decide +kernel
theorem dX10_step_190 : decode cX10_step 190 = .ok (.getfield 93, 3) := by decide +kernel
theorem dX10_step_193 : decode cX10_step 193 = .ok (.bipush 99, 2) := by decide +kernel
theorem dX10_step_195 : decode cX10_step 195 = .ok (.if_icmp .gt 22, 3) := by decide +kernel
theorem dX10_step_198 : decode cX10_step 198 = .ok (.iload_n 1, 1) := by decide +kernel
theorem dX10_step_199 : decode cX10_step 199 = .ok (.bipush 48, 2) := by decide +kernel
theorem dX10_step_201 : decode cX10_step 201 = .ok (.if_icmp .ne 20, 3) := by decide +kernel
theorem dX10_step_204 : decode cX10_step 204 = .ok (.aload_n 0, 1) := by decide +kernel
theorem dX10_step_205 : decode cX10_step 205 = .ok (.getfield 83, 3) := by decide +kernel
theorem dX10_step_208 : decode cX10_step 208 = .ok (.aload_n 0, 1) := by decide +kernel
theorem dX10_step_209 : decode cX10_step 209 = .ok (.getfield 90, 3) := by decide +kernel
theorem dX10_step_212 : decode cX10_step 212 = .ok (.isub, 1) := by decide +kernel
theorem dX10_step_213 : decode cX10_step 213 = .ok (.iconst 1, 1) := by decide +kernel
theorem dX10_step_214 : decode cX10_step 214 = .ok (.if_icmp .le 7, 3) := by decide +kernel
theorem dX10_step_217 : decode cX10_step 217 = .ok (.iconst 4, 1) := by decide +kernel
theorem dX10_step_218 : decode cX10_step 218 = .ok (.goto 4, 3) := by decide +kernel
theorem dX10_step_221 : decode cX10_step 221 = .ok (.iconst 1, 1) := by decide +kernel
theorem dX10_step_222 : decode cX10_step 222 = .ok (.putfield 96, 3) := by decide +kernel
theorem dX10_step_225 : decode cX10_step 225 = .ok (.goto 28, 3) := by decide +kernel
theorem dX10_step_228 : decode cX10_step 228 = .ok (.aload_n 0, 1) := by decide +kernel
theorem dX10_step_229 : decode cX10_step 229 = .ok (.dup, 1) := by decide +kernel
theorem dX10_step_230 : decode cX10_step 230 = .ok (.getfield 83, 3) := by decide +kernel
theorem dX10_step_233 : decode cX10_step 233 = .ok (.iconst 1, 1) := by decide +kernel
theorem dX10_step_234 : decode cX10_step 234 = .ok (.iadd, 1) := by decide +kernel
theorem dX10_step_235 : decode cX10_step 235 = .ok (.putfield 83, 3) := by decide +kernel
theorem dX10_step_238 : decode cX10_step 238 = .ok (.aload_n 0, 1) := by decide +kernel
theorem dX10_step_239 : decode cX10_step 239 = .ok (.iload_n 1, 1) := by decide +kernel
theorem dX10_step_240 : decode cX10_step 240 = .ok (.bipush 59, 2) := by decide +kernel
theorem dX10_step_242 : decode cX10_step 242 = .ok (.if_icmp .ne 7, 3) := by decide +kernel
theorem dX10_step_245 : decode cX10_step 245 = .ok (.iconst 2, 1) := by decide +kernel
theorem dX10_step_246 : decode cX10_step 246 = .ok (.goto 4, 3) := by decide +kernel
theorem dX10_step_249 : decode cX10_step 249 = .ok (.iconst 4, 1) := by decide +kernel
theorem dX10_step_250 : decode cX10_step 250 = .ok (.putfield 96, 3) := by decide +kernel
theorem dX10_step_253 : decode cX10_step 253 = .ok (.return_, 1) := by decide +kernel
theorem dX10_due_0 : decode cX10_due 0 = .ok (.aload_n 0, 1) := by decide +kernel
theorem dX10_due_1 : decode cX10_due 1 = .ok (.getfield 93, 3) := by decide +kernel
theorem dX10_due_4 : decode cX10_due 4 = .ok (.istore_n 2, 1) := by decide +kernel
theorem dX10_due_5 : decode cX10_due 5 = .ok (.aload_n 0, 1) := by decide +kernel
theorem dX10_due_6 : decode cX10_due 6 = .ok (.getfield 99, 3) := by decide +kernel
theorem dX10_due_9 : decode cX10_due 9 = .ok (.bipush (-9), 2) := by decide +kernel
theorem dX10_due_11 : decode cX10_due 11 = .ok (.if_icmp .ne 22, 3) := by decide +kernel
theorem dX10_due_14 : decode cX10_due 14 = .ok (.iload_n 1, 1) := by decide +kernel
theorem dX10_due_15 : decode cX10_due 15 = .ok (.ifCond .eq 10, 3) := by decide +kernel
theorem dX10_due_18 : decode cX10_due 18 = .ok (.aload_n 0, 1) := by decide +kernel
theorem dX10_due_19 : decode cX10_due 19 = .ok (.invokevirtual 102, 3) := by decide +kernel
theorem dX10_due_22 : decode cX10_due 22 = .ok (.goto 11, 3) := by decide +kernel
theorem dX10_due_25 : decode cX10_due 25 = .ok (.aload_n 0, 1) := by decide +kernel
theorem dX10_due_26 : decode cX10_due 26 = .ok (.aload_n 0, 1) := by decide +kernel
theorem dX10_due_27 : decode cX10_due 27 = .ok (.getfield 90, 3) := by decide +kernel
theorem dX10_due_30 : decode cX10_due 30 = .ok (.putfield 99, 3) := by decide +kernel
theorem dX10_due_33 : decode cX10_due 33 = .ok (.iload_n 2, 1) := by decide +kernel
theorem dX10_due_34 : decode cX10_due 34 = .ok (.ireturn, 1) := by decide +kernel
theorem dX10_number_0 : decode cX10_number 0 = .ok (.aload_n 0, 1) := by decide +kernel
theorem dX10_number_1 : decode cX10_number 1 = .ok (.aload_n 0, 1) := by decide +kernel
theorem dX10_number_2 : decode cX10_number 2 = .ok (.getfield 96, 3) := by decide +kernel
theorem dX10_number_5 : decode cX10_number 5 = .ok (.iconst 1, 1) := by decide +kernel
theorem dX10_number_6 : decode cX10_number 6 = .ok (.if_icmp .ne 19, 3) := by decide +kernel
theorem dX10_number_9 : decode cX10_number 9 = .ok (.aload_n 0, 1) := by decide +kernel
theorem dX10_number_10 : decode cX10_number 10 = .ok (.getfield 93, 3) := by decide +kernel
theorem dX10_number_13 : decode cX10_number 13 = .ok (.iload_n 1, 1) := by decide +kernel
theorem dX10_number_14 : decode cX10_number 14 = .ok (.iload_n 2, 1) := by decide +kernel
theorem dX10_number_15 : decode cX10_number 15 = .ok (.invokestatic 75, 3) := by decide +kernel
theorem dX10_number_18 : decode cX10_number 18 = .ok (.ifCond .eq 7, 3) := by decide +kernel
theorem dX10_number_21 : decode cX10_number 21 = .ok (.iconst 1, 1) := by decide +kernel
theorem dX10_number_22 : decode cX10_number 22 = .ok (.goto 4, 3) := by decide +kernel
theorem dX10_number_25 : decode cX10_number 25 = .ok (.iconst 0, 1) := by decide +kernel
theorem dX10_number_26 : decode cX10_number 26 = .ok (.invokevirtual 105, 3) := by decide +kernel
theorem dX10_number_29 : decode cX10_number 29 = .ok (.ireturn, 1) := by decide +kernel
theorem dX10_mayBe_0 : decode cX10_mayBe 0 = .ok (.aload_n 0, 1) := by decide +kernel
theorem dX10_mayBe_1 : decode cX10_mayBe 1 = .ok (.getfield 13, 3) := by decide +kernel
theorem dX10_mayBe_4 : decode cX10_mayBe 4 = .ok (.iconst 1, 1) := by decide +kernel
theorem dX10_mayBe_5 : decode cX10_mayBe 5 = .ok (.iaload, 1) := by decide +kernel
theorem dX10_mayBe_6 : decode cX10_mayBe 6 = .ok (.ifCond .ne 15, 3) := by decide +kernel
theorem dX10_mayBe_9 : decode cX10_mayBe 9 = .ok (.iload_n 1, 1) := by decide +kernel
theorem dX10_mayBe_10 : decode cX10_mayBe 10 = .ok (.bipush 99, 2) := by decide +kernel
theorem dX10_mayBe_12 : decode cX10_mayBe 12 = .ok (.if_icmp .ne 7, 3) := by decide +kernel
theorem dX10_mayBe_15 : decode cX10_mayBe 15 = .ok (.iconst 1, 1) := by decide +kernel
theorem dX10_mayBe_16 : decode cX10_mayBe 16 = .ok (.goto 4, 3) := by decide +kernel
theorem dX10_mayBe_19 : decode cX10_mayBe 19 = .ok (.iconst 0, 1) := by decide +kernel
theorem dX10_mayBe_20 : decode cX10_mayBe 20 = .ok (.ireturn, 1) := by decide +kernel
theorem dX10_mayBe_21 : decode cX10_mayBe 21 = .ok (.iload_n 1, 1) := by decide +kernel
theorem dX10_mayBe_22 : decode cX10_mayBe 22 = .ok (.bipush 115, 2) := by decide +kernel
theorem dX10_mayBe_24 : decode cX10_mayBe 24 = .ok (.if_icmp .ne 22, 3) := by decide +kernel
theorem dX10_mayBe_27 : decode cX10_mayBe 27 = .ok (.aload_n 0, 1) := by decide +kernel
theorem dX10_mayBe_28 : decode cX10_mayBe 28 = .ok (.getfield 17, 3) := by decide +kernel
theorem dX10_mayBe_31 : decode cX10_mayBe 31 = .ok (.iconst 1, 1) := by decide +kernel
theorem dX10_mayBe_32 : decode cX10_mayBe 32 = .ok (.iaload, 1) := by decide +kernel
theorem dX10_mayBe_33 : decode cX10_mayBe 33 = .ok (.bipush 12, 2) := by decide +kernel
theorem dX10_mayBe_35 : decode cX10_mayBe 35 = .ok (.if_icmp .ge 7, 3) := by decide +kernel
theorem dX10_mayBe_38 : decode cX10_mayBe 38 = .ok (.iconst 1, 1) := by decide +kernel
theorem dX10_mayBe_39 : decode cX10_mayBe 39 = .ok (.goto 29, 3) := by decide +kernel
theorem dX10_mayBe_42 : decode cX10_mayBe 42 = .ok (.iconst 0, 1) := by decide +kernel
theorem dX10_mayBe_43 : decode cX10_mayBe 43 = .ok (.goto 25, 3) := by decide +kernel
theorem dX10_mayBe_46 : decode cX10_mayBe 46 = .ok (.iload_n 1, 1) := by decide +kernel
theorem dX10_mayBe_47 : decode cX10_mayBe 47 = .ok (.bipush 108, 2) := by decide +kernel
theorem dX10_mayBe_49 : decode cX10_mayBe 49 = .ok (.if_icmp .ne 18, 3) := by decide +kernel
theorem dX10_mayBe_52 : decode cX10_mayBe 52 = .ok (.aload_n 0, 1) := by decide +kernel
theorem dX10_mayBe_53 : decode cX10_mayBe 53 = .ok (.getfield 26, 3) := by decide +kernel
theorem dX10_mayBe_56 : decode cX10_mayBe 56 = .ok (.iconst 1, 1) := by decide +kernel
theorem dX10_mayBe_57 : decode cX10_mayBe 57 = .ok (.iaload, 1) := by decide +kernel
theorem dX10_mayBe_58 : decode cX10_mayBe 58 = .ok (.bipush 6, 2) := by decide +kernel
theorem dX10_mayBe_60 : decode cX10_mayBe 60 = .ok (.if_icmp .ge 7, 3) := by decide +kernel
theorem dX10_mayBe_63 : decode cX10_mayBe 63 = .ok (.iconst 1, 1) := by decide +kernel
theorem dX10_mayBe_64 : decode cX10_mayBe 64 = .ok (.goto 4, 3) := by decide +kernel
theorem dX10_mayBe_67 : decode cX10_mayBe 67 = .ok (.iconst 0, 1) := by decide +kernel
theorem dX10_mayBe_68 : decode cX10_mayBe 68 = .ok (.ireturn, 1) := by decide +kernel
theorem dX10_readRow_0 : decode cX10_readRow 0 = .ok (.iload_n 1, 1) := by decide +kernel
theorem dX10_readRow_1 : decode cX10_readRow 1 = .ok (.bipush 99, 2) := by decide +kernel
theorem dX10_readRow_3 : decode cX10_readRow 3 = .ok (.if_icmp .ne 19, 3) := by decide +kernel
theorem dX10_readRow_6 : decode cX10_readRow 6 = .ok (.aload_n 0, 1) := by decide +kernel
theorem dX10_readRow_7 : decode cX10_readRow 7 = .ok (.getfield 13, 3) := by decide +kernel
theorem dX10_readRow_10 : decode cX10_readRow 10 = .ok (.iconst 1, 1) := by decide +kernel
theorem dX10_readRow_11 : decode cX10_readRow 11 = .ok (.aload_n 0, 1) := by decide +kernel
theorem dX10_readRow_12 : decode cX10_readRow 12 = .ok (.iconst 1, 1) := by decide +kernel
theorem dX10_readRow_13 : decode cX10_readRow 13 = .ok (.bipush 8, 2) := by decide +kernel
theorem dX10_readRow_15 : decode cX10_readRow 15 = .ok (.invokevirtual 109, 3) := by decide +kernel
theorem dX10_readRow_18 : decode cX10_readRow 18 = .ok (.iastore, 1) := by decide +kernel
theorem dX10_readRow_19 : decode cX10_readRow 19 = .ok (.goto 172, 3) := by decide +kernel
theorem dX10_readRow_22 : decode cX10_readRow 22 = .ok (.iload_n 1, 1) := by decide +kernel
theorem dX10_readRow_23 : decode cX10_readRow 23 = .ok (.bipush 115, 2) := by decide +kernel
theorem dX10_readRow_25 : decode cX10_readRow 25 = .ok (.if_icmp .ne 115, 3) := by decide +kernel
theorem dX10_readRow_28 : decode cX10_readRow 28 = .ok (.bipush 12, 2) := by decide +kernel
theorem dX10_readRow_30 : decode cX10_readRow 30 = .ok (.aload_n 0, 1) := by decide +kernel
theorem dX10_readRow_31 : decode cX10_readRow 31 = .ok (.getfield 17, 3) := by decide +kernel
theorem dX10_readRow_34 : decode cX10_readRow 34 = .ok (.iconst 1, 1) := by decide +kernel
theorem dX10_readRow_35 : decode cX10_readRow 35 = .ok (.iaload, 1) := by decide +kernel
theorem dX10_readRow_36 : decode cX10_readRow 36 = .ok (.iadd, 1) := by decide +kernel
theorem dX10_readRow_37 : decode cX10_readRow 37 = .ok (.istore_n 2, 1) := by decide +kernel
theorem dX10_readRow_38 : decode cX10_readRow 38 = .ok (.aload_n 0, 1) := by decide +kernel
theorem dX10_readRow_39 : decode cX10_readRow 39 = .ok (.getfield 20, 3) := by decide +kernel
theorem dX10_readRow_42 : decode cX10_readRow 42 = .ok (.iconst 2, 1) := by decide +kernel
theorem dX10_readRow_43 : decode cX10_readRow 43 = .ok (.iload_n 2, 1) := by decide +kernel
theorem dX10_readRow_44 : decode cX10_readRow 44 = .ok (.imul, 1) := by decide +kernel
theorem dX10_readRow_45 : decode cX10_readRow 45 = .ok (.aload_n 0, 1) := by decide +kernel
theorem dX10_readRow_46 : decode cX10_readRow 46 = .ok (.iconst 0, 1) := by decide +kernel
theorem dX10_readRow_47 : decode cX10_readRow 47 = .ok (.aload_n 0, 1) := by decide +kernel
theorem dX10_readRow_48 : decode cX10_readRow 48 = .ok (.getfield 13, 3) := by decide +kernel
theorem dX10_readRow_51 : decode cX10_readRow 51 = .ok (.iconst 1, 1) := by decide +kernel
theorem dX10_readRow_52 : decode cX10_readRow 52 = .ok (.iaload, 1) := by decide +kernel
theorem dX10_readRow_53 : decode cX10_readRow 53 = .ok (.iconst 1, 1) := by decide +kernel
theorem dX10_readRow_54 : decode cX10_readRow 54 = .ok (.isub, 1) := by decide +kernel
theorem dX10_readRow_55 : decode cX10_readRow 55 = .ok (.invokevirtual 109, 3) := by decide +kernel
theorem dX10_readRow_58 : decode cX10_readRow 58 = .ok (.iastore, 1) := by decide +kernel
theorem dX10_readRow_59 : decode cX10_readRow 59 = .ok (.aload_n 0, 1) := by decide +kernel
theorem dX10_readRow_60 : decode cX10_readRow 60 = .ok (.getfield 20, 3) := by decide +kernel
theorem dX10_readRow_63 : decode cX10_readRow 63 = .ok (.iconst 2, 1) := by decide +kernel
theorem dX10_readRow_64 : decode cX10_readRow 64 = .ok (.iload_n 2, 1) := by decide +kernel
theorem dX10_readRow_65 : decode cX10_readRow 65 = .ok (.imul, 1) := by decide +kernel
theorem dX10_readRow_66 : decode cX10_readRow 66 = .ok (.iconst 1, 1) := by decide +kernel
theorem dX10_readRow_67 : decode cX10_readRow 67 = .ok (.iadd, 1) := by decide +kernel
theorem dX10_readRow_68 : decode cX10_readRow 68 = .ok (.aload_n 0, 1) := by decide +kernel
theorem dX10_readRow_69 : decode cX10_readRow 69 = .ok (.aload_n 0, 1) := by decide +kernel
theorem dX10_readRow_70 : decode cX10_readRow 70 = .ok (.getfield 96, 3) := by decide +kernel
theorem dX10_readRow_73 : decode cX10_readRow 73 = .ok (.iconst 1, 1) := by decide +kernel
theorem dX10_readRow_74 : decode cX10_readRow 74 = .ok (.if_icmp .ne 35, 3) := by decide +kernel
theorem dX10_readRow_77 : decode cX10_readRow 77 = .ok (.aload_n 0, 1) := by decide +kernel
theorem dX10_readRow_78 : decode cX10_readRow 78 = .ok (.getfield 93, 3) := by decide +kernel
theorem dX10_readRow_81 : decode cX10_readRow 81 = .ok (.aload_n 0, 1) := by decide +kernel
theorem dX10_readRow_82 : decode cX10_readRow 82 = .ok (.getfield 13, 3) := by decide +kernel
theorem dX10_readRow_85 : decode cX10_readRow 85 = .ok (.iconst 1, 1) := by decide +kernel
theorem dX10_readRow_86 : decode cX10_readRow 86 = .ok (.iaload, 1) := by decide +kernel
theorem dX10_readRow_87 : decode cX10_readRow 87 = .ok (.if_icmp .ge 22, 3) := by decide +kernel
theorem dX10_readRow_90 : decode cX10_readRow 90 = .ok (.aload_n 0, 1) := by decide +kernel
theorem dX10_readRow_91 : decode cX10_readRow 91 = .ok (.getfield 93, 3) := by decide +kernel
theorem dX10_readRow_94 : decode cX10_readRow 94 = .ok (.aload_n 0, 1) := by decide +kernel
theorem dX10_readRow_95 : decode cX10_readRow 95 = .ok (.getfield 20, 3) := by decide +kernel
theorem dX10_readRow_98 : decode cX10_readRow 98 = .ok (.iconst 2, 1) := by decide +kernel
theorem dX10_readRow_99 : decode cX10_readRow 99 = .ok (.iload_n 2, 1) := by decide +kernel
theorem dX10_readRow_100 : decode cX10_readRow 100 = .ok (.imul, 1) := by decide +kernel
theorem dX10_readRow_101 : decode cX10_readRow 101 = .ok (.iaload, 1) := by decide +kernel
theorem dX10_readRow_102 : decode cX10_readRow 102 = .ok (.if_icmp .eq 7, 3) := by decide +kernel
theorem dX10_readRow_105 : decode cX10_readRow 105 = .ok (.iconst 1, 1) := by decide +kernel
theorem dX10_readRow_106 : decode cX10_readRow 106 = .ok (.goto 4, 3) := by decide +kernel
theorem dX10_readRow_109 : decode cX10_readRow 109 = .ok (.iconst 0, 1) := by decide +kernel
theorem dX10_readRow_110 : decode cX10_readRow 110 = .ok (.invokevirtual 105, 3) := by decide +kernel
theorem dX10_readRow_113 : decode cX10_readRow 113 = .ok (.iastore, 1) := by decide +kernel
theorem dX10_readRow_114 : decode cX10_readRow 114 = .ok (.aload_n 0, 1) := by decide +kernel
theorem dX10_readRow_115 : decode cX10_readRow 115 = .ok (.getfield 23, 3) := by decide +kernel
theorem dX10_readRow_118 : decode cX10_readRow 118 = .ok (.iload_n 2, 1) := by decide +kernel
theorem dX10_readRow_119 : decode cX10_readRow 119 = .ok (.aload_n 0, 1) := by decide +kernel
theorem dX10_readRow_120 : decode cX10_readRow 120 = .ok (.iconst 1, 1) := by decide +kernel
theorem dX10_readRow_121 : decode cX10_readRow 121 = .ok (.bipush 9, 2) := by decide +kernel
theorem dX10_readRow_123 : decode cX10_readRow 123 = .ok (.invokevirtual 109, 3) := by decide +kernel
theorem dX10_readRow_126 : decode cX10_readRow 126 = .ok (.iastore, 1) := by decide +kernel
theorem dX10_readRow_127 : decode cX10_readRow 127 = .ok (.aload_n 0, 1) := by decide +kernel
theorem dX10_readRow_128 : decode cX10_readRow 128 = .ok (.getfield 17, 3) := by decide +kernel
theorem dX10_readRow_131 : decode cX10_readRow 131 = .ok (.iconst 1, 1) := by decide +kernel
theorem dX10_readRow_132 : decode cX10_readRow 132 = .ok (.dup2, 1) := by decide +kernel
theorem dX10_readRow_133 : decode cX10_readRow 133 = .ok (.iaload, 1) := by decide +kernel
theorem dX10_readRow_134 : decode cX10_readRow 134 = .ok (.iconst 1, 1) := by decide +kernel
theorem dX10_readRow_135 : decode cX10_readRow 135 = .ok (.iadd, 1) := by decide +kernel
theorem dX10_readRow_136 : decode cX10_readRow 136 = .ok (.iastore, 1) := by decide +kernel
theorem dX10_readRow_137 : decode cX10_readRow 137 = .ok (.goto 54, 3) := by decide +kernel
theorem dX10_readRow_140 : decode cX10_readRow 140 = .ok (.bipush 6, 2) := by decide +kernel
theorem dX10_readRow_142 : decode cX10_readRow 142 = .ok (.aload_n 0, 1) := by decide +kernel
theorem dX10_readRow_143 : decode cX10_readRow 143 = .ok (.getfield 26, 3) := by decide +kernel
theorem dX10_readRow_146 : decode cX10_readRow 146 = .ok (.iconst 1, 1) := by decide +kernel
theorem dX10_readRow_147 : decode cX10_readRow 147 = .ok (.iaload, 1) := by decide +kernel
theorem dX10_readRow_148 : decode cX10_readRow 148 = .ok (.iadd, 1) := by decide +kernel
theorem dX10_readRow_149 : decode cX10_readRow 149 = .ok (.istore_n 2, 1) := by decide +kernel
theorem dX10_readRow_150 : decode cX10_readRow 150 = .ok (.aload_n 0, 1) := by decide +kernel
theorem dX10_readRow_151 : decode cX10_readRow 151 = .ok (.getfield 29, 3) := by decide +kernel
theorem dX10_readRow_154 : decode cX10_readRow 154 = .ok (.iload_n 2, 1) := by decide +kernel
theorem dX10_readRow_155 : decode cX10_readRow 155 = .ok (.aload_n 0, 1) := by decide +kernel
theorem dX10_readRow_156 : decode cX10_readRow 156 = .ok (.iconst 0, 1) := by decide +kernel
theorem dX10_readRow_157 : decode cX10_readRow 157 = .ok (.aload_n 0, 1) := by decide +kernel
theorem dX10_readRow_158 : decode cX10_readRow 158 = .ok (.getfield 13, 3) := by decide +kernel
theorem dX10_readRow_161 : decode cX10_readRow 161 = .ok (.iconst 1, 1) := by decide +kernel
theorem dX10_readRow_162 : decode cX10_readRow 162 = .ok (.iaload, 1) := by decide +kernel
theorem dX10_readRow_163 : decode cX10_readRow 163 = .ok (.iconst 1, 1) := by decide +kernel
theorem dX10_readRow_164 : decode cX10_readRow 164 = .ok (.isub, 1) := by decide +kernel
theorem dX10_readRow_165 : decode cX10_readRow 165 = .ok (.invokevirtual 109, 3) := by decide +kernel
theorem dX10_readRow_168 : decode cX10_readRow 168 = .ok (.iastore, 1) := by decide +kernel
theorem dX10_readRow_169 : decode cX10_readRow 169 = .ok (.aload_n 0, 1) := by decide +kernel
theorem dX10_readRow_170 : decode cX10_readRow 170 = .ok (.getfield 32, 3) := by decide +kernel
theorem dX10_readRow_173 : decode cX10_readRow 173 = .ok (.iload_n 2, 1) := by decide +kernel
theorem dX10_readRow_174 : decode cX10_readRow 174 = .ok (.aload_n 0, 1) := by decide +kernel
theorem dX10_readRow_175 : decode cX10_readRow 175 = .ok (.iconst 1, 1) := by decide +kernel
theorem dX10_readRow_176 : decode cX10_readRow 176 = .ok (.iconst 5, 1) := by decide +kernel
theorem dX10_readRow_177 : decode cX10_readRow 177 = .ok (.invokevirtual 109, 3) := by decide +kernel
theorem dX10_readRow_180 : decode cX10_readRow 180 = .ok (.iastore, 1) := by decide +kernel
theorem dX10_readRow_181 : decode cX10_readRow 181 = .ok (.aload_n 0, 1) := by decide +kernel
theorem dX10_readRow_182 : decode cX10_readRow 182 = .ok (.getfield 26, 3) := by decide +kernel
theorem dX10_readRow_185 : decode cX10_readRow 185 = .ok (.iconst 1, 1) := by decide +kernel
theorem dX10_readRow_186 : decode cX10_readRow 186 = .ok (.dup2, 1) := by decide +kernel
theorem dX10_readRow_187 : decode cX10_readRow 187 = .ok (.iaload, 1) := by decide +kernel
theorem dX10_readRow_188 : decode cX10_readRow 188 = .ok (.iconst 1, 1) := by decide +kernel
theorem dX10_readRow_189 : decode cX10_readRow 189 = .ok (.iadd, 1) := by decide +kernel
theorem dX10_readRow_190 : decode cX10_readRow 190 = .ok (.iastore, 1) := by decide +kernel
theorem dX10_readRow_191 : decode cX10_readRow 191 = .ok (.return_, 1) := by decide +kernel
theorem dX10_plain_0 : decode cX10_plain 0 = .ok (.aload_n 0, 1) := by decide +kernel
theorem dX10_plain_1 : decode cX10_plain 1 = .ok (.getfield 13, 3) := by decide +kernel
theorem dX10_plain_4 : decode cX10_plain 4 = .ok (.iconst 1, 1) := by decide +kernel
theorem dX10_plain_5 : decode cX10_plain 5 = .ok (.iconst 0, 1) := by decide +kernel
theorem dX10_plain_6 : decode cX10_plain 6 = .ok (.iastore, 1) := by decide +kernel
theorem dX10_plain_7 : decode cX10_plain 7 = .ok (.aload_n 0, 1) := by decide +kernel
theorem dX10_plain_8 : decode cX10_plain 8 = .ok (.getfield 17, 3) := by decide +kernel
theorem dX10_plain_11 : decode cX10_plain 11 = .ok (.iconst 1, 1) := by decide +kernel
theorem dX10_plain_12 : decode cX10_plain 12 = .ok (.iconst 0, 1) := by decide +kernel
theorem dX10_plain_13 : decode cX10_plain 13 = .ok (.iastore, 1) := by decide +kernel
theorem dX10_plain_14 : decode cX10_plain 14 = .ok (.aload_n 0, 1) := by decide +kernel
theorem dX10_plain_15 : decode cX10_plain 15 = .ok (.getfield 26, 3) := by decide +kernel
theorem dX10_plain_18 : decode cX10_plain 18 = .ok (.iconst 1, 1) := by decide +kernel
theorem dX10_plain_19 : decode cX10_plain 19 = .ok (.iconst 0, 1) := by decide +kernel
theorem dX10_plain_20 : decode cX10_plain 20 = .ok (.iastore, 1) := by decide +kernel
theorem dX10_plain_21 : decode cX10_plain 21 = .ok (.return_, 1) := by decide +kernel
theorem dX10_measure_0 : decode cX10_measure 0 = .ok (.iconst 0, 1) := by decide +kernel
theorem dX10_measure_1 : decode cX10_measure 1 = .ok (.istore_n 1, 1) := by decide +kernel
theorem dX10_measure_2 : decode cX10_measure 2 = .ok (.iload_n 1, 1) := by decide +kernel
theorem dX10_measure_3 : decode cX10_measure 3 = .ok (.bipush 64, 2) := by decide +kernel
theorem dX10_measure_5 : decode cX10_measure 5 = .ok (.if_icmp .ge 32, 3) := by decide +kernel
theorem dX10_measure_8 : decode cX10_measure 8 = .ok (.aload_n 0, 1) := by decide +kernel
theorem dX10_measure_9 : decode cX10_measure 9 = .ok (.getfield 35, 3) := by decide +kernel
theorem dX10_measure_12 : decode cX10_measure 12 = .ok (.iload_n 1, 1) := by decide +kernel
theorem dX10_measure_13 : decode cX10_measure 13 = .ok (.iload_n 1, 1) := by decide +kernel
theorem dX10_measure_14 : decode cX10_measure 14 = .ok (.bipush 8, 2) := by decide +kernel
theorem dX10_measure_16 : decode cX10_measure 16 = .ok (.idiv, 1) := by decide +kernel
theorem dX10_measure_17 : decode cX10_measure 17 = .ok (.iload_n 1, 1) := by decide +kernel
theorem dX10_measure_18 : decode cX10_measure 18 = .ok (.bipush 8, 2) := by decide +kernel
theorem dX10_measure_20 : decode cX10_measure 20 = .ok (.irem, 1) := by decide +kernel
theorem dX10_measure_21 : decode cX10_measure 21 = .ok (.if_icmp .ne 7, 3) := by decide +kernel
theorem dX10_measure_24 : decode cX10_measure 24 = .ok (.iconst 0, 1) := by decide +kernel
theorem dX10_measure_25 : decode cX10_measure 25 = .ok (.goto 5, 3) := by decide +kernel
theorem dX10_measure_28 : decode cX10_measure 28 = .ok (.bipush 99, 2) := by decide +kernel
theorem dX10_measure_30 : decode cX10_measure 30 = .ok (.iastore, 1) := by decide +kernel
theorem dX10_measure_31 : decode cX10_measure 31 = .ok (.iinc 1 1, 3) := by decide +kernel
theorem dX10_measure_34 : decode cX10_measure 34 = .ok (.goto (-32), 3) := by decide +kernel
theorem dX10_measure_37 : decode cX10_measure 37 = .ok (.iconst 0, 1) := by decide +kernel
theorem dX10_measure_38 : decode cX10_measure 38 = .ok (.istore_n 1, 1) := by decide +kernel
theorem dX10_measure_39 : decode cX10_measure 39 = .ok (.iload_n 1, 1) := by decide +kernel
theorem dX10_measure_40 : decode cX10_measure 40 = .ok (.aload_n 0, 1) := by decide +kernel
theorem dX10_measure_41 : decode cX10_measure 41 = .ok (.getfield 17, 3) := by decide +kernel
theorem dX10_measure_44 : decode cX10_measure 44 = .ok (.iconst 0, 1) := by decide +kernel
theorem dX10_measure_45 : decode cX10_measure 45 = .ok (.iaload, 1) := by decide +kernel
theorem dX10_measure_46 : decode cX10_measure 46 = .ok (.if_icmp .ge 103, 3) := by decide +kernel
theorem dX10_measure_49 : decode cX10_measure 49 = .ok (.bipush 8, 2) := by decide +kernel
theorem dX10_measure_51 : decode cX10_measure 51 = .ok (.aload_n 0, 1) := by decide +kernel
theorem dX10_measure_52 : decode cX10_measure 52 = .ok (.getfield 20, 3) := by decide +kernel
theorem dX10_measure_55 : decode cX10_measure 55 = .ok (.iconst 2, 1) := by decide +kernel
theorem dX10_measure_56 : decode cX10_measure 56 = .ok (.iload_n 1, 1) := by decide +kernel
theorem dX10_measure_57 : decode cX10_measure 57 = .ok (.imul, 1) := by decide +kernel
theorem dX10_measure_58 : decode cX10_measure 58 = .ok (.iaload, 1) := by decide +kernel
theorem dX10_measure_59 : decode cX10_measure 59 = .ok (.imul, 1) := by decide +kernel
theorem dX10_measure_60 : decode cX10_measure 60 = .ok (.aload_n 0, 1) := by decide +kernel
theorem dX10_measure_61 : decode cX10_measure 61 = .ok (.getfield 20, 3) := by decide +kernel
theorem dX10_measure_64 : decode cX10_measure 64 = .ok (.iconst 2, 1) := by decide +kernel
theorem dX10_measure_65 : decode cX10_measure 65 = .ok (.iload_n 1, 1) := by decide +kernel
theorem dX10_measure_66 : decode cX10_measure 66 = .ok (.imul, 1) := by decide +kernel
theorem dX10_measure_67 : decode cX10_measure 67 = .ok (.iconst 1, 1) := by decide +kernel
theorem dX10_measure_68 : decode cX10_measure 68 = .ok (.iadd, 1) := by decide +kernel
theorem dX10_measure_69 : decode cX10_measure 69 = .ok (.iaload, 1) := by decide +kernel
theorem dX10_measure_70 : decode cX10_measure 70 = .ok (.iadd, 1) := by decide +kernel
theorem dX10_measure_71 : decode cX10_measure 71 = .ok (.istore_n 2, 1) := by decide +kernel
theorem dX10_measure_72 : decode cX10_measure 72 = .ok (.bipush 8, 2) := by decide +kernel
theorem dX10_measure_74 : decode cX10_measure 74 = .ok (.aload_n 0, 1) := by decide +kernel
theorem dX10_measure_75 : decode cX10_measure 75 = .ok (.getfield 20, 3) := by decide +kernel
theorem dX10_measure_78 : decode cX10_measure 78 = .ok (.iconst 2, 1) := by decide +kernel
theorem dX10_measure_79 : decode cX10_measure 79 = .ok (.iload_n 1, 1) := by decide +kernel
theorem dX10_measure_80 : decode cX10_measure 80 = .ok (.imul, 1) := by decide +kernel
theorem dX10_measure_81 : decode cX10_measure 81 = .ok (.iconst 1, 1) := by decide +kernel
theorem dX10_measure_82 : decode cX10_measure 82 = .ok (.iadd, 1) := by decide +kernel
theorem dX10_measure_83 : decode cX10_measure 83 = .ok (.iaload, 1) := by decide +kernel
theorem dX10_measure_84 : decode cX10_measure 84 = .ok (.imul, 1) := by decide +kernel
theorem dX10_measure_85 : decode cX10_measure 85 = .ok (.aload_n 0, 1) := by decide +kernel
theorem dX10_measure_86 : decode cX10_measure 86 = .ok (.getfield 20, 3) := by decide +kernel
theorem dX10_measure_89 : decode cX10_measure 89 = .ok (.iconst 2, 1) := by decide +kernel
theorem dX10_measure_90 : decode cX10_measure 90 = .ok (.iload_n 1, 1) := by decide +kernel
theorem dX10_measure_91 : decode cX10_measure 91 = .ok (.imul, 1) := by decide +kernel
theorem dX10_measure_92 : decode cX10_measure 92 = .ok (.iaload, 1) := by decide +kernel
theorem dX10_measure_93 : decode cX10_measure 93 = .ok (.iadd, 1) := by decide +kernel
theorem dX10_measure_94 : decode cX10_measure 94 = .ok (.istore_n 3, 1) := by decide +kernel
theorem dX10_measure_95 : decode cX10_measure 95 = .ok (.aload_n 0, 1) := by decide +kernel
theorem dX10_measure_96 : decode cX10_measure 96 = .ok (.getfield 35, 3) := by decide +kernel
theorem dX10_measure_99 : decode cX10_measure 99 = .ok (.iload_n 2, 1) := by decide +kernel
theorem dX10_measure_100 : decode cX10_measure 100 = .ok (.aload_n 0, 1) := by decide +kernel
theorem dX10_measure_101 : decode cX10_measure 101 = .ok (.getfield 23, 3) := by decide +kernel
theorem dX10_measure_104 : decode cX10_measure 104 = .ok (.iload_n 1, 1) := by decide +kernel
theorem dX10_measure_105 : decode cX10_measure 105 = .ok (.iaload, 1) := by decide +kernel
theorem dX10_measure_106 : decode cX10_measure 106 = .ok (.aload_n 0, 1) := by decide +kernel
theorem dX10_measure_107 : decode cX10_measure 107 = .ok (.getfield 35, 3) := by decide +kernel
theorem dX10_measure_110 : decode cX10_measure 110 = .ok (.iload_n 2, 1) := by decide +kernel
theorem dX10_measure_111 : decode cX10_measure 111 = .ok (.iaload, 1) := by decide +kernel
theorem dX10_measure_112 : decode cX10_measure 112 = .ok (.if_icmp .ge 12, 3) := by decide +kernel
theorem dX10_measure_115 : decode cX10_measure 115 = .ok (.aload_n 0, 1) := by decide +kernel
theorem dX10_measure_116 : decode cX10_measure 116 = .ok (.getfield 23, 3) := by decide +kernel
theorem dX10_measure_119 : decode cX10_measure 119 = .ok (.iload_n 1, 1) := by decide +kernel
theorem dX10_measure_120 : decode cX10_measure 120 = .ok (.iaload, 1) := by decide +kernel
theorem dX10_measure_121 : decode cX10_measure 121 = .ok (.goto 9, 3) := by decide +kernel
theorem dX10_measure_124 : decode cX10_measure 124 = .ok (.aload_n 0, 1) := by decide +kernel
theorem dX10_measure_125 : decode cX10_measure 125 = .ok (.getfield 35, 3) := by decide +kernel
theorem dX10_measure_128 : decode cX10_measure 128 = .ok (.iload_n 2, 1) := by decide +kernel
theorem dX10_measure_129 : decode cX10_measure 129 = .ok (.iaload, 1) := by decide +kernel
theorem dX10_measure_130 : decode cX10_measure 130 = .ok (.iastore, 1) := by decide +kernel
theorem dX10_measure_131 : decode cX10_measure 131 = .ok (.aload_n 0, 1) := by decide +kernel
theorem dX10_measure_132 : decode cX10_measure 132 = .ok (.getfield 35, 3) := by decide +kernel
theorem dX10_measure_135 : decode cX10_measure 135 = .ok (.iload_n 3, 1) := by decide +kernel
theorem dX10_measure_136 : decode cX10_measure 136 = .ok (.aload_n 0, 1) := by decide +kernel
theorem dX10_measure_137 : decode cX10_measure 137 = .ok (.getfield 35, 3) := by decide +kernel
theorem dX10_measure_140 : decode cX10_measure 140 = .ok (.iload_n 2, 1) := by decide +kernel
theorem dX10_measure_141 : decode cX10_measure 141 = .ok (.iaload, 1) := by decide +kernel
theorem dX10_measure_142 : decode cX10_measure 142 = .ok (.iastore, 1) := by decide +kernel
theorem dX10_measure_143 : decode cX10_measure 143 = .ok (.iinc 1 1, 3) := by decide +kernel
theorem dX10_measure_146 : decode cX10_measure 146 = .ok (.goto (-107), 3) := by decide +kernel
theorem dX10_measure_149 : decode cX10_measure 149 = .ok (.iconst 0, 1) := by decide +kernel
theorem dX10_measure_150 : decode cX10_measure 150 = .ok (.istore_n 1, 1) := by decide +kernel
theorem dX10_measure_151 : decode cX10_measure 151 = .ok (.iload_n 1, 1) := by decide +kernel
theorem dX10_measure_152 : decode cX10_measure 152 = .ok (.bipush 8, 2) := by decide +kernel
theorem dX10_measure_154 : decode cX10_measure 154 = .ok (.if_icmp .ge 79, 3) := by decide +kernel
theorem dX10_measure_157 : decode cX10_measure 157 = .ok (.iconst 0, 1) := by decide +kernel
theorem dX10_measure_158 : decode cX10_measure 158 = .ok (.istore_n 2, 1) := by decide +kernel
theorem dX10_measure_159 : decode cX10_measure 159 = .ok (.iload_n 2, 1) := by decide +kernel
theorem dX10_measure_160 : decode cX10_measure 160 = .ok (.bipush 64, 2) := by decide +kernel
theorem dX10_measure_162 : decode cX10_measure 162 = .ok (.if_icmp .ge 65, 3) := by decide +kernel
theorem dX10_measure_165 : decode cX10_measure 165 = .ok (.aload_n 0, 1) := by decide +kernel
theorem dX10_measure_166 : decode cX10_measure 166 = .ok (.getfield 35, 3) := by decide +kernel
theorem dX10_measure_169 : decode cX10_measure 169 = .ok (.bipush 8, 2) := by decide +kernel
theorem dX10_measure_171 : decode cX10_measure 171 = .ok (.iload_n 2, 1) := by decide +kernel
theorem dX10_measure_172 : decode cX10_measure 172 = .ok (.bipush 8, 2) := by decide +kernel
theorem dX10_measure_174 : decode cX10_measure 174 = .ok (.idiv, 1) := by decide +kernel
theorem dX10_measure_175 : decode cX10_measure 175 = .ok (.imul, 1) := by decide +kernel
theorem dX10_measure_176 : decode cX10_measure 176 = .ok (.iload_n 1, 1) := by decide +kernel
theorem dX10_measure_177 : decode cX10_measure 177 = .ok (.iadd, 1) := by decide +kernel
theorem dX10_measure_178 : decode cX10_measure 178 = .ok (.iaload, 1) := by decide +kernel
theorem dX10_measure_179 : decode cX10_measure 179 = .ok (.aload_n 0, 1) := by decide +kernel
theorem dX10_measure_180 : decode cX10_measure 180 = .ok (.getfield 35, 3) := by decide +kernel
theorem dX10_measure_183 : decode cX10_measure 183 = .ok (.bipush 8, 2) := by decide +kernel
theorem dX10_measure_185 : decode cX10_measure 185 = .ok (.iload_n 1, 1) := by decide +kernel
theorem dX10_measure_186 : decode cX10_measure 186 = .ok (.imul, 1) := by decide +kernel
theorem dX10_measure_187 : decode cX10_measure 187 = .ok (.iload_n 2, 1) := by decide +kernel
theorem dX10_measure_188 : decode cX10_measure 188 = .ok (.bipush 8, 2) := by decide +kernel
theorem dX10_measure_190 : decode cX10_measure 190 = .ok (.irem, 1) := by decide +kernel
theorem dX10_measure_191 : decode cX10_measure 191 = .ok (.iadd, 1) := by decide +kernel
theorem dX10_measure_192 : decode cX10_measure 192 = .ok (.iaload, 1) := by decide +kernel
theorem dX10_measure_193 : decode cX10_measure 193 = .ok (.iadd, 1) := by decide +kernel
theorem dX10_measure_194 : decode cX10_measure 194 = .ok (.istore_n 3, 1) := by decide +kernel
theorem dX10_measure_195 : decode cX10_measure 195 = .ok (.aload_n 0, 1) := by decide +kernel
theorem dX10_measure_196 : decode cX10_measure 196 = .ok (.getfield 35, 3) := by decide +kernel
theorem dX10_measure_199 : decode cX10_measure 199 = .ok (.iload_n 2, 1) := by decide +kernel
theorem dX10_measure_200 : decode cX10_measure 200 = .ok (.iload_n 3, 1) := by decide +kernel
theorem dX10_measure_201 : decode cX10_measure 201 = .ok (.aload_n 0, 1) := by decide +kernel
theorem dX10_measure_202 : decode cX10_measure 202 = .ok (.getfield 35, 3) := by decide +kernel
theorem dX10_measure_205 : decode cX10_measure 205 = .ok (.iload_n 2, 1) := by decide +kernel
theorem dX10_measure_206 : decode cX10_measure 206 = .ok (.iaload, 1) := by decide +kernel
theorem dX10_measure_207 : decode cX10_measure 207 = .ok (.if_icmp .ge 7, 3) := by decide +kernel
theorem dX10_measure_210 : decode cX10_measure 210 = .ok (.iload_n 3, 1) := by decide +kernel
theorem dX10_measure_211 : decode cX10_measure 211 = .ok (.goto 9, 3) := by decide +kernel
theorem dX10_measure_214 : decode cX10_measure 214 = .ok (.aload_n 0, 1) := by decide +kernel
theorem dX10_measure_215 : decode cX10_measure 215 = .ok (.getfield 35, 3) := by decide +kernel
theorem dX10_measure_218 : decode cX10_measure 218 = .ok (.iload_n 2, 1) := by decide +kernel
theorem dX10_measure_219 : decode cX10_measure 219 = .ok (.iaload, 1) := by decide +kernel
theorem dX10_measure_220 : decode cX10_measure 220 = .ok (.iastore, 1) := by decide +kernel
theorem dX10_measure_221 : decode cX10_measure 221 = .ok (.iinc 2 1, 3) := by decide +kernel
theorem dX10_measure_224 : decode cX10_measure 224 = .ok (.goto (-65), 3) := by decide +kernel
theorem dX10_measure_227 : decode cX10_measure 227 = .ok (.iinc 1 1, 3) := by decide +kernel
theorem dX10_measure_230 : decode cX10_measure 230 = .ok (.goto (-79), 3) := by decide +kernel
theorem dX10_measure_233 : decode cX10_measure 233 = .ok (.return_, 1) := by decide +kernel
theorem dX10_takeDraft_0 : decode cX10_takeDraft 0 = .ok (.aload_n 0, 1) := by decide +kernel
theorem dX10_takeDraft_1 : decode cX10_takeDraft 1 = .ok (.getfield 13, 3) := by decide +kernel
theorem dX10_takeDraft_4 : decode cX10_takeDraft 4 = .ok (.iconst 0, 1) := by decide +kernel
theorem dX10_takeDraft_5 : decode cX10_takeDraft 5 = .ok (.aload_n 0, 1) := by decide +kernel
theorem dX10_takeDraft_6 : decode cX10_takeDraft 6 = .ok (.getfield 13, 3) := by decide +kernel
theorem dX10_takeDraft_9 : decode cX10_takeDraft 9 = .ok (.iconst 1, 1) := by decide +kernel
theorem dX10_takeDraft_10 : decode cX10_takeDraft 10 = .ok (.iaload, 1) := by decide +kernel
theorem dX10_takeDraft_11 : decode cX10_takeDraft 11 = .ok (.iastore, 1) := by decide +kernel
theorem dX10_takeDraft_12 : decode cX10_takeDraft 12 = .ok (.aload_n 0, 1) := by decide +kernel
theorem dX10_takeDraft_13 : decode cX10_takeDraft 13 = .ok (.getfield 17, 3) := by decide +kernel
theorem dX10_takeDraft_16 : decode cX10_takeDraft 16 = .ok (.iconst 0, 1) := by decide +kernel
theorem dX10_takeDraft_17 : decode cX10_takeDraft 17 = .ok (.aload_n 0, 1) := by decide +kernel
theorem dX10_takeDraft_18 : decode cX10_takeDraft 18 = .ok (.getfield 17, 3) := by decide +kernel
theorem dX10_takeDraft_21 : decode cX10_takeDraft 21 = .ok (.iconst 1, 1) := by decide +kernel
theorem dX10_takeDraft_22 : decode cX10_takeDraft 22 = .ok (.iaload, 1) := by decide +kernel
theorem dX10_takeDraft_23 : decode cX10_takeDraft 23 = .ok (.iastore, 1) := by decide +kernel
theorem dX10_takeDraft_24 : decode cX10_takeDraft 24 = .ok (.aload_n 0, 1) := by decide +kernel
theorem dX10_takeDraft_25 : decode cX10_takeDraft 25 = .ok (.getfield 26, 3) := by decide +kernel
theorem dX10_takeDraft_28 : decode cX10_takeDraft 28 = .ok (.iconst 0, 1) := by decide +kernel
theorem dX10_takeDraft_29 : decode cX10_takeDraft 29 = .ok (.aload_n 0, 1) := by decide +kernel
theorem dX10_takeDraft_30 : decode cX10_takeDraft 30 = .ok (.getfield 26, 3) := by decide +kernel
theorem dX10_takeDraft_33 : decode cX10_takeDraft 33 = .ok (.iconst 1, 1) := by decide +kernel
theorem dX10_takeDraft_34 : decode cX10_takeDraft 34 = .ok (.iaload, 1) := by decide +kernel
theorem dX10_takeDraft_35 : decode cX10_takeDraft 35 = .ok (.iastore, 1) := by decide +kernel
theorem dX10_takeDraft_36 : decode cX10_takeDraft 36 = .ok (.iconst 0, 1) := by decide +kernel
theorem dX10_takeDraft_37 : decode cX10_takeDraft 37 = .ok (.istore_n 1, 1) := by decide +kernel
theorem dX10_takeDraft_38 : decode cX10_takeDraft 38 = .ok (.iload_n 1, 1) := by decide +kernel
theorem dX10_takeDraft_39 : decode cX10_takeDraft 39 = .ok (.bipush 24, 2) := by decide +kernel
theorem dX10_takeDraft_41 : decode cX10_takeDraft 41 = .ok (.if_icmp .ge 24, 3) := by decide +kernel
theorem dX10_takeDraft_44 : decode cX10_takeDraft 44 = .ok (.aload_n 0, 1) := by decide +kernel
theorem dX10_takeDraft_45 : decode cX10_takeDraft 45 = .ok (.getfield 20, 3) := by decide +kernel
theorem dX10_takeDraft_48 : decode cX10_takeDraft 48 = .ok (.iload_n 1, 1) := by decide +kernel
theorem dX10_takeDraft_49 : decode cX10_takeDraft 49 = .ok (.aload_n 0, 1) := by decide +kernel
theorem dX10_takeDraft_50 : decode cX10_takeDraft 50 = .ok (.getfield 20, 3) := by decide +kernel
theorem dX10_takeDraft_53 : decode cX10_takeDraft 53 = .ok (.bipush 24, 2) := by decide +kernel
theorem dX10_takeDraft_55 : decode cX10_takeDraft 55 = .ok (.iload_n 1, 1) := by decide +kernel
theorem dX10_takeDraft_56 : decode cX10_takeDraft 56 = .ok (.iadd, 1) := by decide +kernel
theorem dX10_takeDraft_57 : decode cX10_takeDraft 57 = .ok (.iaload, 1) := by decide +kernel
theorem dX10_takeDraft_58 : decode cX10_takeDraft 58 = .ok (.iastore, 1) := by decide +kernel
theorem dX10_takeDraft_59 : decode cX10_takeDraft 59 = .ok (.iinc 1 1, 3) := by decide +kernel
theorem dX10_takeDraft_62 : decode cX10_takeDraft 62 = .ok (.goto (-24), 3) := by decide +kernel
theorem dX10_takeDraft_65 : decode cX10_takeDraft 65 = .ok (.iconst 0, 1) := by decide +kernel
theorem dX10_takeDraft_66 : decode cX10_takeDraft 66 = .ok (.istore_n 1, 1) := by decide +kernel
theorem dX10_takeDraft_67 : decode cX10_takeDraft 67 = .ok (.iload_n 1, 1) := by decide +kernel
theorem dX10_takeDraft_68 : decode cX10_takeDraft 68 = .ok (.bipush 12, 2) := by decide +kernel
theorem dX10_takeDraft_70 : decode cX10_takeDraft 70 = .ok (.if_icmp .ge 24, 3) := by decide +kernel
theorem dX10_takeDraft_73 : decode cX10_takeDraft 73 = .ok (.aload_n 0, 1) := by decide +kernel
theorem dX10_takeDraft_74 : decode cX10_takeDraft 74 = .ok (.getfield 23, 3) := by decide +kernel
theorem dX10_takeDraft_77 : decode cX10_takeDraft 77 = .ok (.iload_n 1, 1) := by decide +kernel
theorem dX10_takeDraft_78 : decode cX10_takeDraft 78 = .ok (.aload_n 0, 1) := by decide +kernel
theorem dX10_takeDraft_79 : decode cX10_takeDraft 79 = .ok (.getfield 23, 3) := by decide +kernel
theorem dX10_takeDraft_82 : decode cX10_takeDraft 82 = .ok (.bipush 12, 2) := by decide +kernel
theorem dX10_takeDraft_84 : decode cX10_takeDraft 84 = .ok (.iload_n 1, 1) := by decide +kernel
theorem dX10_takeDraft_85 : decode cX10_takeDraft 85 = .ok (.iadd, 1) := by decide +kernel
theorem dX10_takeDraft_86 : decode cX10_takeDraft 86 = .ok (.iaload, 1) := by decide +kernel
theorem dX10_takeDraft_87 : decode cX10_takeDraft 87 = .ok (.iastore, 1) := by decide +kernel
theorem dX10_takeDraft_88 : decode cX10_takeDraft 88 = .ok (.iinc 1 1, 3) := by decide +kernel
theorem dX10_takeDraft_91 : decode cX10_takeDraft 91 = .ok (.goto (-24), 3) := by decide +kernel
theorem dX10_takeDraft_94 : decode cX10_takeDraft 94 = .ok (.iconst 0, 1) := by decide +kernel
theorem dX10_takeDraft_95 : decode cX10_takeDraft 95 = .ok (.istore_n 1, 1) := by decide +kernel
theorem dX10_takeDraft_96 : decode cX10_takeDraft 96 = .ok (.iload_n 1, 1) := by decide +kernel
theorem dX10_takeDraft_97 : decode cX10_takeDraft 97 = .ok (.bipush 6, 2) := by decide +kernel
theorem dX10_takeDraft_99 : decode cX10_takeDraft 99 = .ok (.if_icmp .ge 39, 3) := by decide +kernel
theorem dX10_takeDraft_102 : decode cX10_takeDraft 102 = .ok (.aload_n 0, 1) := by decide +kernel
theorem dX10_takeDraft_103 : decode cX10_takeDraft 103 = .ok (.getfield 29, 3) := by decide +kernel
theorem dX10_takeDraft_106 : decode cX10_takeDraft 106 = .ok (.iload_n 1, 1) := by decide +kernel
theorem dX10_takeDraft_107 : decode cX10_takeDraft 107 = .ok (.aload_n 0, 1) := by decide +kernel
theorem dX10_takeDraft_108 : decode cX10_takeDraft 108 = .ok (.getfield 29, 3) := by decide +kernel
theorem dX10_takeDraft_111 : decode cX10_takeDraft 111 = .ok (.bipush 6, 2) := by decide +kernel
theorem dX10_takeDraft_113 : decode cX10_takeDraft 113 = .ok (.iload_n 1, 1) := by decide +kernel
theorem dX10_takeDraft_114 : decode cX10_takeDraft 114 = .ok (.iadd, 1) := by decide +kernel
theorem dX10_takeDraft_115 : decode cX10_takeDraft 115 = .ok (.iaload, 1) := by decide +kernel
theorem dX10_takeDraft_116 : decode cX10_takeDraft 116 = .ok (.iastore, 1) := by decide +kernel
theorem dX10_takeDraft_117 : decode cX10_takeDraft 117 = .ok (.aload_n 0, 1) := by decide +kernel
theorem dX10_takeDraft_118 : decode cX10_takeDraft 118 = .ok (.getfield 32, 3) := by decide +kernel
theorem dX10_takeDraft_121 : decode cX10_takeDraft 121 = .ok (.iload_n 1, 1) := by decide +kernel
theorem dX10_takeDraft_122 : decode cX10_takeDraft 122 = .ok (.aload_n 0, 1) := by decide +kernel
theorem dX10_takeDraft_123 : decode cX10_takeDraft 123 = .ok (.getfield 32, 3) := by decide +kernel
theorem dX10_takeDraft_126 : decode cX10_takeDraft 126 = .ok (.bipush 6, 2) := by decide +kernel
theorem dX10_takeDraft_128 : decode cX10_takeDraft 128 = .ok (.iload_n 1, 1) := by decide +kernel
theorem dX10_takeDraft_129 : decode cX10_takeDraft 129 = .ok (.iadd, 1) := by decide +kernel
theorem dX10_takeDraft_130 : decode cX10_takeDraft 130 = .ok (.iaload, 1) := by decide +kernel
theorem dX10_takeDraft_131 : decode cX10_takeDraft 131 = .ok (.iastore, 1) := by decide +kernel
theorem dX10_takeDraft_132 : decode cX10_takeDraft 132 = .ok (.iinc 1 1, 3) := by decide +kernel
theorem dX10_takeDraft_135 : decode cX10_takeDraft 135 = .ok (.goto (-39), 3) := by decide +kernel
theorem dX10_takeDraft_138 : decode cX10_takeDraft 138 = .ok (.aload_n 0, 1) := by decide +kernel
theorem dX10_takeDraft_139 : decode cX10_takeDraft 139 = .ok (.invokevirtual 113, 3) := by decide +kernel
theorem dX10_takeDraft_142 : decode cX10_takeDraft 142 = .ok (.iconst 0, 1) := by decide +kernel
theorem dX10_takeDraft_143 : decode cX10_takeDraft 143 = .ok (.istore_n 1, 1) := by decide +kernel
theorem dX10_takeDraft_144 : decode cX10_takeDraft 144 = .ok (.iload_n 1, 1) := by decide +kernel
theorem dX10_takeDraft_145 : decode cX10_takeDraft 145 = .ok (.bipush 17, 2) := by decide +kernel
theorem dX10_takeDraft_147 : decode cX10_takeDraft 147 = .ok (.if_icmp .ge 16, 3) := by decide +kernel
theorem dX10_takeDraft_150 : decode cX10_takeDraft 150 = .ok (.aload_n 0, 1) := by decide +kernel
theorem dX10_takeDraft_151 : decode cX10_takeDraft 151 = .ok (.getfield 38, 3) := by decide +kernel
theorem dX10_takeDraft_154 : decode cX10_takeDraft 154 = .ok (.iload_n 1, 1) := by decide +kernel
theorem dX10_takeDraft_155 : decode cX10_takeDraft 155 = .ok (.iconst 0, 1) := by decide +kernel
theorem dX10_takeDraft_156 : decode cX10_takeDraft 156 = .ok (.iastore, 1) := by decide +kernel
theorem dX10_takeDraft_157 : decode cX10_takeDraft 157 = .ok (.iinc 1 1, 3) := by decide +kernel
theorem dX10_takeDraft_160 : decode cX10_takeDraft 160 = .ok (.goto (-16), 3) := by decide +kernel
theorem dX10_takeDraft_163 : decode cX10_takeDraft 163 = .ok (.aload_n 0, 1) := by decide +kernel
theorem dX10_takeDraft_164 : decode cX10_takeDraft 164 = .ok (.getfield 38, 3) := by decide +kernel
theorem dX10_takeDraft_167 : decode cX10_takeDraft 167 = .ok (.bipush 17, 2) := by decide +kernel
theorem dX10_takeDraft_169 : decode cX10_takeDraft 169 = .ok (.iconst 0, 1) := by decide +kernel
theorem dX10_takeDraft_170 : decode cX10_takeDraft 170 = .ok (.iastore, 1) := by decide +kernel
theorem dX10_takeDraft_171 : decode cX10_takeDraft 171 = .ok (.aload_n 0, 1) := by decide +kernel
theorem dX10_takeDraft_172 : decode cX10_takeDraft 172 = .ok (.iconst 0, 1) := by decide +kernel
theorem dX10_takeDraft_173 : decode cX10_takeDraft 173 = .ok (.putfield 116, 3) := by decide +kernel
theorem dX10_takeDraft_176 : decode cX10_takeDraft 176 = .ok (.aload_n 0, 1) := by decide +kernel
theorem dX10_takeDraft_177 : decode cX10_takeDraft 177 = .ok (.iconst 0, 1) := by decide +kernel
theorem dX10_takeDraft_178 : decode cX10_takeDraft 178 = .ok (.putfield 119, 3) := by decide +kernel
theorem dX10_takeDraft_181 : decode cX10_takeDraft 181 = .ok (.aload_n 0, 1) := by decide +kernel
theorem dX10_takeDraft_182 : decode cX10_takeDraft 182 = .ok (.getfield 41, 3) := by decide +kernel
theorem dX10_takeDraft_185 : decode cX10_takeDraft 185 = .ok (.iconst 0, 1) := by decide +kernel
theorem dX10_takeDraft_186 : decode cX10_takeDraft 186 = .ok (.iconst 0, 1) := by decide +kernel
theorem dX10_takeDraft_187 : decode cX10_takeDraft 187 = .ok (.bastore, 1) := by decide +kernel
theorem dX10_takeDraft_188 : decode cX10_takeDraft 188 = .ok (.aload_n 0, 1) := by decide +kernel
theorem dX10_takeDraft_189 : decode cX10_takeDraft 189 = .ok (.getfield 41, 3) := by decide +kernel
theorem dX10_takeDraft_192 : decode cX10_takeDraft 192 = .ok (.iconst 1, 1) := by decide +kernel
theorem dX10_takeDraft_193 : decode cX10_takeDraft 193 = .ok (.iconst 0, 1) := by decide +kernel
theorem dX10_takeDraft_194 : decode cX10_takeDraft 194 = .ok (.bastore, 1) := by decide +kernel
theorem dX10_takeDraft_195 : decode cX10_takeDraft 195 = .ok (.return_, 1) := by decide +kernel
theorem dX10_city_0 : decode cX10_city 0 = .ok (.aload_n 0, 1) := by decide +kernel
theorem dX10_city_1 : decode cX10_city 1 = .ok (.iconst 0, 1) := by decide +kernel
theorem dX10_city_2 : decode cX10_city 2 = .ok (.putfield 83, 3) := by decide +kernel
theorem dX10_city_5 : decode cX10_city 5 = .ok (.aload_n 0, 1) := by decide +kernel
theorem dX10_city_6 : decode cX10_city 6 = .ok (.bipush (-9), 2) := by decide +kernel
theorem dX10_city_8 : decode cX10_city 8 = .ok (.putfield 99, 3) := by decide +kernel
theorem dX10_city_11 : decode cX10_city 11 = .ok (.aload_n 0, 1) := by decide +kernel
theorem dX10_city_12 : decode cX10_city 12 = .ok (.invokevirtual 69, 3) := by decide +kernel
theorem dX10_city_15 : decode cX10_city 15 = .ok (.iconst 0, 1) := by decide +kernel
theorem dX10_city_16 : decode cX10_city 16 = .ok (.istore_n 1, 1) := by decide +kernel
theorem dX10_city_17 : decode cX10_city 17 = .ok (.aload_n 0, 1) := by decide +kernel
theorem dX10_city_18 : decode cX10_city 18 = .ok (.invokevirtual 102, 3) := by decide +kernel
theorem dX10_city_21 : decode cX10_city 21 = .ok (.aload_n 0, 1) := by decide +kernel
theorem dX10_city_22 : decode cX10_city 22 = .ok (.getfield 99, 3) := by decide +kernel
theorem dX10_city_25 : decode cX10_city 25 = .ok (.bipush (-9), 2) := by decide +kernel
theorem dX10_city_27 : decode cX10_city 27 = .ok (.if_icmp .ne 64, 3) := by decide +kernel
theorem dX10_city_30 : decode cX10_city 30 = .ok (.aload_n 0, 1) := by decide +kernel
theorem dX10_city_31 : decode cX10_city 31 = .ok (.getfield 96, 3) := by decide +kernel
theorem dX10_city_34 : decode cX10_city 34 = .ok (.iconst 3, 1) := by decide +kernel
theorem dX10_city_35 : decode cX10_city 35 = .ok (.if_icmp .eq 56, 3) := by decide +kernel
theorem dX10_city_38 : decode cX10_city 38 = .ok (.aload_n 0, 1) := by decide +kernel
theorem dX10_city_39 : decode cX10_city 39 = .ok (.getfield 96, 3) := by decide +kernel
theorem dX10_city_42 : decode cX10_city 42 = .ok (.istore_n 2, 1) := by decide +kernel
theorem dX10_city_43 : decode cX10_city 43 = .ok (.aload_n 0, 1) := by decide +kernel
theorem dX10_city_44 : decode cX10_city 44 = .ok (.aload_n 0, 1) := by decide +kernel
theorem dX10_city_45 : decode cX10_city 45 = .ok (.iload_n 2, 1) := by decide +kernel
theorem dX10_city_46 : decode cX10_city 46 = .ok (.invokevirtual 122, 3) := by decide +kernel
theorem dX10_city_49 : decode cX10_city 49 = .ok (.invokevirtual 105, 3) := by decide +kernel
theorem dX10_city_52 : decode cX10_city 52 = .ok (.pop, 1) := by decide +kernel
theorem dX10_city_53 : decode cX10_city 53 = .ok (.aload_n 0, 1) := by decide +kernel
theorem dX10_city_54 : decode cX10_city 54 = .ok (.getfield 99, 3) := by decide +kernel
theorem dX10_city_57 : decode cX10_city 57 = .ok (.bipush (-9), 2) := by decide +kernel
theorem dX10_city_59 : decode cX10_city 59 = .ok (.if_icmp .ne 29, 3) := by decide +kernel
theorem dX10_city_62 : decode cX10_city 62 = .ok (.aload_n 0, 1) := by decide +kernel
theorem dX10_city_63 : decode cX10_city 63 = .ok (.iload_n 2, 1) := by decide +kernel
theorem dX10_city_64 : decode cX10_city 64 = .ok (.invokevirtual 126, 3) := by decide +kernel
theorem dX10_city_67 : decode cX10_city 67 = .ok (.aload_n 0, 1) := by decide +kernel
theorem dX10_city_68 : decode cX10_city 68 = .ok (.aload_n 0, 1) := by decide +kernel
theorem dX10_city_69 : decode cX10_city 69 = .ok (.getfield 96, 3) := by decide +kernel
theorem dX10_city_72 : decode cX10_city 72 = .ok (.iconst 2, 1) := by decide +kernel
theorem dX10_city_73 : decode cX10_city 73 = .ok (.if_icmp .ne 7, 3) := by decide +kernel
theorem dX10_city_76 : decode cX10_city 76 = .ok (.iconst 1, 1) := by decide +kernel
theorem dX10_city_77 : decode cX10_city 77 = .ok (.goto 4, 3) := by decide +kernel
theorem dX10_city_80 : decode cX10_city 80 = .ok (.iconst 0, 1) := by decide +kernel
theorem dX10_city_81 : decode cX10_city 81 = .ok (.invokevirtual 105, 3) := by decide +kernel
theorem dX10_city_84 : decode cX10_city 84 = .ok (.pop, 1) := by decide +kernel
theorem dX10_city_85 : decode cX10_city 85 = .ok (.iinc 1 1, 3) := by decide +kernel
theorem dX10_city_88 : decode cX10_city 88 = .ok (.goto (-67), 3) := by decide +kernel
theorem dX10_city_91 : decode cX10_city 91 = .ok (.aload_n 0, 1) := by decide +kernel
theorem dX10_city_92 : decode cX10_city 92 = .ok (.getfield 99, 3) := by decide +kernel
theorem dX10_city_95 : decode cX10_city 95 = .ok (.bipush (-9), 2) := by decide +kernel
theorem dX10_city_97 : decode cX10_city 97 = .ok (.if_icmp .eq 11, 3) := by decide +kernel
theorem dX10_city_100 : decode cX10_city 100 = .ok (.bipush (-10), 2) := by decide +kernel
theorem dX10_city_102 : decode cX10_city 102 = .ok (.aload_n 0, 1) := by decide +kernel
theorem dX10_city_103 : decode cX10_city 103 = .ok (.getfield 99, 3) := by decide +kernel
theorem dX10_city_106 : decode cX10_city 106 = .ok (.isub, 1) := by decide +kernel
theorem dX10_city_107 : decode cX10_city 107 = .ok (.ireturn, 1) := by decide +kernel
theorem dX10_city_108 : decode cX10_city 108 = .ok (.aload_n 0, 1) := by decide +kernel
theorem dX10_city_109 : decode cX10_city 109 = .ok (.invokevirtual 72, 3) := by decide +kernel
theorem dX10_city_112 : decode cX10_city 112 = .ok (.aload_n 0, 1) := by decide +kernel
theorem dX10_city_113 : decode cX10_city 113 = .ok (.iconst 0, 1) := by decide +kernel
theorem dX10_city_114 : decode cX10_city 114 = .ok (.putfield 79, 3) := by decide +kernel
theorem dX10_city_117 : decode cX10_city 117 = .ok (.iload_n 1, 1) := by decide +kernel
theorem dX10_city_118 : decode cX10_city 118 = .ok (.ireturn, 1) := by decide +kernel
theorem dX10_isStreet_0 : decode cX10_isStreet 0 = .ok (.iload_n 1, 1) := by decide +kernel
theorem dX10_isStreet_1 : decode cX10_isStreet 1 = .ok (.iconst 0, 1) := by decide +kernel
theorem dX10_isStreet_2 : decode cX10_isStreet 2 = .ok (.aload_n 0, 1) := by decide +kernel
theorem dX10_isStreet_3 : decode cX10_isStreet 3 = .ok (.getfield 17, 3) := by decide +kernel
theorem dX10_isStreet_6 : decode cX10_isStreet 6 = .ok (.iconst 0, 1) := by decide +kernel
theorem dX10_isStreet_7 : decode cX10_isStreet 7 = .ok (.iaload, 1) := by decide +kernel
theorem dX10_isStreet_8 : decode cX10_isStreet 8 = .ok (.iconst 1, 1) := by decide +kernel
theorem dX10_isStreet_9 : decode cX10_isStreet 9 = .ok (.isub, 1) := by decide +kernel
theorem dX10_isStreet_10 : decode cX10_isStreet 10 = .ok (.invokestatic 75, 3) := by decide +kernel
theorem dX10_isStreet_13 : decode cX10_isStreet 13 = .ok (.ireturn, 1) := by decide +kernel
theorem dX10_isLeader_0 : decode cX10_isLeader 0 = .ok (.iload_n 1, 1) := by decide +kernel
theorem dX10_isLeader_1 : decode cX10_isLeader 1 = .ok (.iconst 0, 1) := by decide +kernel
theorem dX10_isLeader_2 : decode cX10_isLeader 2 = .ok (.aload_n 0, 1) := by decide +kernel
theorem dX10_isLeader_3 : decode cX10_isLeader 3 = .ok (.getfield 26, 3) := by decide +kernel
theorem dX10_isLeader_6 : decode cX10_isLeader 6 = .ok (.iconst 0, 1) := by decide +kernel
theorem dX10_isLeader_7 : decode cX10_isLeader 7 = .ok (.iaload, 1) := by decide +kernel
theorem dX10_isLeader_8 : decode cX10_isLeader 8 = .ok (.iconst 1, 1) := by decide +kernel
theorem dX10_isLeader_9 : decode cX10_isLeader 9 = .ok (.isub, 1) := by decide +kernel
theorem dX10_isLeader_10 : decode cX10_isLeader 10 = .ok (.invokestatic 75, 3) := by decide +kernel
theorem dX10_isLeader_13 : decode cX10_isLeader 13 = .ok (.ireturn, 1) := by decide +kernel
theorem dX10_isCorner_0 : decode cX10_isCorner 0 = .ok (.iload_n 1, 1) := by decide +kernel
theorem dX10_isCorner_1 : decode cX10_isCorner 1 = .ok (.iconst 0, 1) := by decide +kernel
theorem dX10_isCorner_2 : decode cX10_isCorner 2 = .ok (.aload_n 0, 1) := by decide +kernel
theorem dX10_isCorner_3 : decode cX10_isCorner 3 = .ok (.getfield 13, 3) := by decide +kernel
theorem dX10_isCorner_6 : decode cX10_isCorner 6 = .ok (.iconst 0, 1) := by decide +kernel
theorem dX10_isCorner_7 : decode cX10_isCorner 7 = .ok (.iaload, 1) := by decide +kernel
theorem dX10_isCorner_8 : decode cX10_isCorner 8 = .ok (.iconst 1, 1) := by decide +kernel
theorem dX10_isCorner_9 : decode cX10_isCorner 9 = .ok (.isub, 1) := by decide +kernel
theorem dX10_isCorner_10 : decode cX10_isCorner 10 = .ok (.invokestatic 75, 3) := by decide +kernel
theorem dX10_isCorner_13 : decode cX10_isCorner 13 = .ok (.ireturn, 1) := by decide +kernel
theorem dX10_street_0 : decode cX10_street 0 = .ok (.aload_n 0, 1) := by decide +kernel
theorem dX10_street_1 : decode cX10_street 1 = .ok (.iload_n 1, 1) := by decide +kernel
theorem dX10_street_2 : decode cX10_street 2 = .ok (.invokevirtual 130, 3) := by decide +kernel
theorem dX10_street_5 : decode cX10_street 5 = .ok (.ifCond .ne 5, 3) := by decide +kernel
theorem dX10_street_8 : decode cX10_street 8 = .ok (.iconst (-1), 1) := by decide +kernel
theorem dX10_street_9 : decode cX10_street 9 = .ok (.ireturn, 1) := by decide +kernel
theorem dX10_street_10 : decode cX10_street 10 = .ok (.iload_n 2, 1) := by decide +kernel
theorem dX10_street_11 : decode cX10_street 11 = .ok (.tableswitch 71 0 4 #[33, 33, 44, 51, 60], 33) := by decide +kernel
theorem dX10_street_44 : decode cX10_street 44 = .ok (.aload_n 0, 1) := by decide +kernel
theorem dX10_street_45 : decode cX10_street 45 = .ok (.getfield 20, 3) := by decide +kernel
theorem dX10_street_48 : decode cX10_street 48 = .ok (.iconst 2, 1) := by decide +kernel
theorem dX10_street_49 : decode cX10_street 49 = .ok (.iload_n 1, 1) := by decide +kernel
theorem dX10_street_50 : decode cX10_street 50 = .ok (.imul, 1) := by decide +kernel
theorem dX10_street_51 : decode cX10_street 51 = .ok (.iload_n 2, 1) := by decide +kernel
theorem dX10_street_52 : decode cX10_street 52 = .ok (.iadd, 1) := by decide +kernel
theorem dX10_street_53 : decode cX10_street 53 = .ok (.iaload, 1) := by decide +kernel
theorem dX10_street_54 : decode cX10_street 54 = .ok (.ireturn, 1) := by decide +kernel
theorem dX10_street_55 : decode cX10_street 55 = .ok (.aload_n 0, 1) := by decide +kernel
theorem dX10_street_56 : decode cX10_street 56 = .ok (.getfield 23, 3) := by decide +kernel
theorem dX10_street_59 : decode cX10_street 59 = .ok (.iload_n 1, 1) := by decide +kernel
theorem dX10_street_60 : decode cX10_street 60 = .ok (.iaload, 1) := by decide +kernel
theorem dX10_street_61 : decode cX10_street 61 = .ok (.ireturn, 1) := by decide +kernel
theorem dX10_street_62 : decode cX10_street 62 = .ok (.aload_n 0, 1) := by decide +kernel
theorem dX10_street_63 : decode cX10_street 63 = .ok (.getfield 38, 3) := by decide +kernel
theorem dX10_street_66 : decode cX10_street 66 = .ok (.iconst 5, 1) := by decide +kernel
theorem dX10_street_67 : decode cX10_street 67 = .ok (.iload_n 1, 1) := by decide +kernel
theorem dX10_street_68 : decode cX10_street 68 = .ok (.iadd, 1) := by decide +kernel
theorem dX10_street_69 : decode cX10_street 69 = .ok (.iaload, 1) := by decide +kernel
theorem dX10_street_70 : decode cX10_street 70 = .ok (.ireturn, 1) := by decide +kernel
theorem dX10_street_71 : decode cX10_street 71 = .ok (.aload_n 0, 1) := by decide +kernel
theorem dX10_street_72 : decode cX10_street 72 = .ok (.getfield 38, 3) := by decide +kernel
theorem dX10_street_75 : decode cX10_street 75 = .ok (.iconst 4, 1) := by decide +kernel
theorem dX10_street_76 : decode cX10_street 76 = .ok (.iaload, 1) := by decide +kernel
theorem dX10_street_77 : decode cX10_street 77 = .ok (.iload_n 1, 1) := by decide +kernel
theorem dX10_street_78 : decode cX10_street 78 = .ok (.ishr, 1) := by decide +kernel
theorem dX10_street_79 : decode cX10_street 79 = .ok (.iconst 1, 1) := by decide +kernel
theorem dX10_street_80 : decode cX10_street 80 = .ok (.iand, 1) := by decide +kernel
theorem dX10_street_81 : decode cX10_street 81 = .ok (.ireturn, 1) := by decide +kernel
theorem dX10_street_82 : decode cX10_street 82 = .ok (.iconst (-1), 1) := by decide +kernel
theorem dX10_street_83 : decode cX10_street 83 = .ok (.ireturn, 1) := by decide +kernel
theorem dX10_leader_0 : decode cX10_leader 0 = .ok (.aload_n 0, 1) := by decide +kernel
theorem dX10_leader_1 : decode cX10_leader 1 = .ok (.iload_n 1, 1) := by decide +kernel
theorem dX10_leader_2 : decode cX10_leader 2 = .ok (.invokevirtual 133, 3) := by decide +kernel
theorem dX10_leader_5 : decode cX10_leader 5 = .ok (.ifCond .eq 12, 3) := by decide +kernel
theorem dX10_leader_8 : decode cX10_leader 8 = .ok (.iload_n 2, 1) := by decide +kernel
theorem dX10_leader_9 : decode cX10_leader 9 = .ok (.iconst 0, 1) := by decide +kernel
theorem dX10_leader_10 : decode cX10_leader 10 = .ok (.iconst 2, 1) := by decide +kernel
theorem dX10_leader_11 : decode cX10_leader 11 = .ok (.invokestatic 75, 3) := by decide +kernel
theorem dX10_leader_14 : decode cX10_leader 14 = .ok (.ifCond .ne 5, 3) := by decide +kernel
theorem dX10_leader_17 : decode cX10_leader 17 = .ok (.iconst (-1), 1) := by decide +kernel
theorem dX10_leader_18 : decode cX10_leader 18 = .ok (.ireturn, 1) := by decide +kernel
theorem dX10_leader_19 : decode cX10_leader 19 = .ok (.iload_n 2, 1) := by decide +kernel
theorem dX10_leader_20 : decode cX10_leader 20 = .ok (.ifCond .ne 12, 3) := by decide +kernel
theorem dX10_leader_23 : decode cX10_leader 23 = .ok (.aload_n 0, 1) := by decide +kernel
theorem dX10_leader_24 : decode cX10_leader 24 = .ok (.getfield 29, 3) := by decide +kernel
theorem dX10_leader_27 : decode cX10_leader 27 = .ok (.iload_n 1, 1) := by decide +kernel
theorem dX10_leader_28 : decode cX10_leader 28 = .ok (.iaload, 1) := by decide +kernel
theorem dX10_leader_29 : decode cX10_leader 29 = .ok (.goto 27, 3) := by decide +kernel
theorem dX10_leader_32 : decode cX10_leader 32 = .ok (.iload_n 2, 1) := by decide +kernel
theorem dX10_leader_33 : decode cX10_leader 33 = .ok (.iconst 1, 1) := by decide +kernel
theorem dX10_leader_34 : decode cX10_leader 34 = .ok (.if_icmp .ne 12, 3) := by decide +kernel
theorem dX10_leader_37 : decode cX10_leader 37 = .ok (.aload_n 0, 1) := by decide +kernel
theorem dX10_leader_38 : decode cX10_leader 38 = .ok (.getfield 32, 3) := by decide +kernel
theorem dX10_leader_41 : decode cX10_leader 41 = .ok (.iload_n 1, 1) := by decide +kernel
theorem dX10_leader_42 : decode cX10_leader 42 = .ok (.iaload, 1) := by decide +kernel
theorem dX10_leader_43 : decode cX10_leader 43 = .ok (.goto 13, 3) := by decide +kernel
theorem dX10_leader_46 : decode cX10_leader 46 = .ok (.aload_n 0, 1) := by decide +kernel
theorem dX10_leader_47 : decode cX10_leader 47 = .ok (.getfield 38, 3) := by decide +kernel
theorem dX10_leader_50 : decode cX10_leader 50 = .ok (.iconst 3, 1) := by decide +kernel
theorem dX10_leader_51 : decode cX10_leader 51 = .ok (.iaload, 1) := by decide +kernel
theorem dX10_leader_52 : decode cX10_leader 52 = .ok (.iload_n 1, 1) := by decide +kernel
theorem dX10_leader_53 : decode cX10_leader 53 = .ok (.ishr, 1) := by decide +kernel
theorem dX10_leader_54 : decode cX10_leader 54 = .ok (.iconst 1, 1) := by decide +kernel
theorem dX10_leader_55 : decode cX10_leader 55 = .ok (.iand, 1) := by decide +kernel
theorem dX10_leader_56 : decode cX10_leader 56 = .ok (.ireturn, 1) := by decide +kernel
theorem dX10_far_0 : decode cX10_far 0 = .ok (.aload_n 0, 1) := by decide +kernel
theorem dX10_far_1 : decode cX10_far 1 = .ok (.iload_n 1, 1) := by decide +kernel
theorem dX10_far_2 : decode cX10_far 2 = .ok (.invokevirtual 136, 3) := by decide +kernel
theorem dX10_far_5 : decode cX10_far 5 = .ok (.ifCond .eq 25, 3) := by decide +kernel
theorem dX10_far_8 : decode cX10_far 8 = .ok (.aload_n 0, 1) := by decide +kernel
theorem dX10_far_9 : decode cX10_far 9 = .ok (.iload_n 2, 1) := by decide +kernel
theorem dX10_far_10 : decode cX10_far 10 = .ok (.invokevirtual 136, 3) := by decide +kernel
theorem dX10_far_13 : decode cX10_far 13 = .ok (.ifCond .eq 17, 3) := by decide +kernel
theorem dX10_far_16 : decode cX10_far 16 = .ok (.aload_n 0, 1) := by decide +kernel
theorem dX10_far_17 : decode cX10_far 17 = .ok (.getfield 35, 3) := by decide +kernel
theorem dX10_far_20 : decode cX10_far 20 = .ok (.bipush 8, 2) := by decide +kernel
theorem dX10_far_22 : decode cX10_far 22 = .ok (.iload_n 1, 1) := by decide +kernel
theorem dX10_far_23 : decode cX10_far 23 = .ok (.imul, 1) := by decide +kernel
theorem dX10_far_24 : decode cX10_far 24 = .ok (.iload_n 2, 1) := by decide +kernel
theorem dX10_far_25 : decode cX10_far 25 = .ok (.iadd, 1) := by decide +kernel
theorem dX10_far_26 : decode cX10_far 26 = .ok (.iaload, 1) := by decide +kernel
theorem dX10_far_27 : decode cX10_far 27 = .ok (.goto 4, 3) := by decide +kernel
theorem dX10_far_30 : decode cX10_far 30 = .ok (.iconst (-1), 1) := by decide +kernel
theorem dX10_far_31 : decode cX10_far 31 = .ok (.ireturn, 1) := by decide +kernel
theorem dX10_manyOf_0 : decode cX10_manyOf 0 = .ok (.iconst 0, 1) := by decide +kernel
theorem dX10_manyOf_1 : decode cX10_manyOf 1 = .ok (.istore_n 1, 1) := by decide +kernel
theorem dX10_manyOf_2 : decode cX10_manyOf 2 = .ok (.iconst 0, 1) := by decide +kernel
theorem dX10_manyOf_3 : decode cX10_manyOf 3 = .ok (.istore_n 2, 1) := by decide +kernel
theorem dX10_manyOf_4 : decode cX10_manyOf 4 = .ok (.iload_n 2, 1) := by decide +kernel
theorem dX10_manyOf_5 : decode cX10_manyOf 5 = .ok (.bipush 16, 2) := by decide +kernel
theorem dX10_manyOf_7 : decode cX10_manyOf 7 = .ok (.if_icmp .ge 17, 3) := by decide +kernel
theorem dX10_manyOf_10 : decode cX10_manyOf 10 = .ok (.iload_n 1, 1) := by decide +kernel
theorem dX10_manyOf_11 : decode cX10_manyOf 11 = .ok (.iload_n 0, 1) := by decide +kernel
theorem dX10_manyOf_12 : decode cX10_manyOf 12 = .ok (.iload_n 2, 1) := by decide +kernel
theorem dX10_manyOf_13 : decode cX10_manyOf 13 = .ok (.ishr, 1) := by decide +kernel
theorem dX10_manyOf_14 : decode cX10_manyOf 14 = .ok (.iconst 1, 1) := by decide +kernel
theorem dX10_manyOf_15 : decode cX10_manyOf 15 = .ok (.iand, 1) := by decide +kernel
theorem dX10_manyOf_16 : decode cX10_manyOf 16 = .ok (.iadd, 1) := by decide +kernel
theorem dX10_manyOf_17 : decode cX10_manyOf 17 = .ok (.istore_n 1, 1) := by decide +kernel
theorem dX10_manyOf_18 : decode cX10_manyOf 18 = .ok (.iinc 2 1, 3) := by decide +kernel
theorem dX10_manyOf_21 : decode cX10_manyOf 21 = .ok (.goto (-17), 3) := by decide +kernel
theorem dX10_manyOf_24 : decode cX10_manyOf 24 = .ok (.iload_n 1, 1) := by decide +kernel
theorem dX10_manyOf_25 : decode cX10_manyOf 25 = .ok (.ireturn, 1) := by decide +kernel
theorem dX10_take_0 : decode cX10_take 0 = .ok (.iconst 0, 1) := by decide +kernel
theorem dX10_take_1 : decode cX10_take 1 = .ok (.istore_n 1, 1) := by decide +kernel
theorem dX10_take_2 : decode cX10_take 2 = .ok (.iload_n 1, 1) := by decide +kernel
theorem dX10_take_3 : decode cX10_take 3 = .ok (.bipush 17, 2) := by decide +kernel
theorem dX10_take_5 : decode cX10_take 5 = .ok (.if_icmp .ge 21, 3) := by decide +kernel
theorem dX10_take_8 : decode cX10_take 8 = .ok (.aload_n 0, 1) := by decide +kernel
theorem dX10_take_9 : decode cX10_take 9 = .ok (.getfield 45, 3) := by decide +kernel
theorem dX10_take_12 : decode cX10_take 12 = .ok (.iload_n 1, 1) := by decide +kernel
theorem dX10_take_13 : decode cX10_take 13 = .ok (.aload_n 0, 1) := by decide +kernel
theorem dX10_take_14 : decode cX10_take 14 = .ok (.getfield 38, 3) := by decide +kernel
theorem dX10_take_17 : decode cX10_take 17 = .ok (.iload_n 1, 1) := by decide +kernel
theorem dX10_take_18 : decode cX10_take 18 = .ok (.iaload, 1) := by decide +kernel
theorem dX10_take_19 : decode cX10_take 19 = .ok (.iastore, 1) := by decide +kernel
theorem dX10_take_20 : decode cX10_take 20 = .ok (.iinc 1 1, 3) := by decide +kernel
theorem dX10_take_23 : decode cX10_take 23 = .ok (.goto (-21), 3) := by decide +kernel
theorem dX10_take_26 : decode cX10_take 26 = .ok (.return_, 1) := by decide +kernel
theorem dX10_way_0 : decode cX10_way 0 = .ok (.bipush (-9), 2) := by decide +kernel
theorem dX10_way_2 : decode cX10_way 2 = .ok (.istore_n 3, 1) := by decide +kernel
theorem dX10_way_3 : decode cX10_way 3 = .ok (.iconst 0, 1) := by decide +kernel
theorem dX10_way_4 : decode cX10_way 4 = .ok (.istore 4, 2) := by decide +kernel
theorem dX10_way_6 : decode cX10_way 6 = .ok (.iconst 0, 1) := by decide +kernel
theorem dX10_way_7 : decode cX10_way 7 = .ok (.istore 5, 2) := by decide +kernel
theorem dX10_way_9 : decode cX10_way 9 = .ok (.iload 5, 2) := by decide +kernel
theorem dX10_way_11 : decode cX10_way 11 = .ok (.aload_n 0, 1) := by decide +kernel
theorem dX10_way_12 : decode cX10_way 12 = .ok (.getfield 17, 3) := by decide +kernel
theorem dX10_way_15 : decode cX10_way 15 = .ok (.iconst 0, 1) := by decide +kernel
theorem dX10_way_16 : decode cX10_way 16 = .ok (.iaload, 1) := by decide +kernel
theorem dX10_way_17 : decode cX10_way 17 = .ok (.if_icmp .ge 146, 3) := by decide +kernel
theorem dX10_way_20 : decode cX10_way 20 = .ok (.iconst 0, 1) := by decide +kernel
theorem dX10_way_21 : decode cX10_way 21 = .ok (.istore 6, 2) := by decide +kernel
theorem dX10_way_23 : decode cX10_way 23 = .ok (.iload 6, 2) := by decide +kernel
theorem dX10_way_25 : decode cX10_way 25 = .ok (.iconst 2, 1) := by decide +kernel
theorem dX10_way_26 : decode cX10_way 26 = .ok (.if_icmp .ge 131, 3) := by decide +kernel
theorem dX10_way_29 : decode cX10_way 29 = .ok (.aload_n 0, 1) := by decide +kernel
theorem dX10_way_30 : decode cX10_way 30 = .ok (.getfield 20, 3) := by decide +kernel
theorem dX10_way_33 : decode cX10_way 33 = .ok (.iconst 2, 1) := by decide +kernel
theorem dX10_way_34 : decode cX10_way 34 = .ok (.iload 5, 2) := by decide +kernel
theorem dX10_way_36 : decode cX10_way 36 = .ok (.imul, 1) := by decide +kernel
theorem dX10_way_37 : decode cX10_way 37 = .ok (.iload 6, 2) := by decide +kernel
theorem dX10_way_39 : decode cX10_way 39 = .ok (.iadd, 1) := by decide +kernel
theorem dX10_way_40 : decode cX10_way 40 = .ok (.iaload, 1) := by decide +kernel
theorem dX10_way_41 : decode cX10_way 41 = .ok (.aload_n 1, 1) := by decide +kernel
theorem dX10_way_42 : decode cX10_way 42 = .ok (.iconst 0, 1) := by decide +kernel
theorem dX10_way_43 : decode cX10_way 43 = .ok (.iaload, 1) := by decide +kernel
theorem dX10_way_44 : decode cX10_way 44 = .ok (.if_icmp .ne 32, 3) := by decide +kernel
theorem dX10_way_47 : decode cX10_way 47 = .ok (.aload_n 1, 1) := by decide +kernel
theorem dX10_way_48 : decode cX10_way 48 = .ok (.iconst 4, 1) := by decide +kernel
theorem dX10_way_49 : decode cX10_way 49 = .ok (.iaload, 1) := by decide +kernel
theorem dX10_way_50 : decode cX10_way 50 = .ok (.iload 5, 2) := by decide +kernel
theorem dX10_way_52 : decode cX10_way 52 = .ok (.ishr, 1) := by decide +kernel
theorem dX10_way_53 : decode cX10_way 53 = .ok (.iconst 1, 1) := by decide +kernel
theorem dX10_way_54 : decode cX10_way 54 = .ok (.iand, 1) := by decide +kernel
theorem dX10_way_55 : decode cX10_way 55 = .ok (.ifCond .ne 21, 3) := by decide +kernel
theorem dX10_way_58 : decode cX10_way 58 = .ok (.aload_n 1, 1) := by decide +kernel
theorem dX10_way_59 : decode cX10_way 59 = .ok (.iconst 5, 1) := by decide +kernel
theorem dX10_way_60 : decode cX10_way 60 = .ok (.iload 5, 2) := by decide +kernel
theorem dX10_way_62 : decode cX10_way 62 = .ok (.iadd, 1) := by decide +kernel
theorem dX10_way_63 : decode cX10_way 63 = .ok (.iaload, 1) := by decide +kernel
theorem dX10_way_64 : decode cX10_way 64 = .ok (.iload 6, 2) := by decide +kernel
theorem dX10_way_66 : decode cX10_way 66 = .ok (.ishr, 1) := by decide +kernel
theorem dX10_way_67 : decode cX10_way 67 = .ok (.iconst 1, 1) := by decide +kernel
theorem dX10_way_68 : decode cX10_way 68 = .ok (.iand, 1) := by decide +kernel
theorem dX10_way_69 : decode cX10_way 69 = .ok (.ifCond .ne 7, 3) := by decide +kernel
theorem dX10_way_72 : decode cX10_way 72 = .ok (.iconst 1, 1) := by decide +kernel
theorem dX10_way_73 : decode cX10_way 73 = .ok (.goto 4, 3) := by decide +kernel
theorem dX10_way_76 : decode cX10_way 76 = .ok (.iconst 0, 1) := by decide +kernel
theorem dX10_way_77 : decode cX10_way 77 = .ok (.istore 7, 2) := by decide +kernel
theorem dX10_way_79 : decode cX10_way 79 = .ok (.bipush 10, 2) := by decide +kernel
theorem dX10_way_81 : decode cX10_way 81 = .ok (.aload_n 0, 1) := by decide +kernel
theorem dX10_way_82 : decode cX10_way 82 = .ok (.getfield 35, 3) := by decide +kernel
theorem dX10_way_85 : decode cX10_way 85 = .ok (.bipush 8, 2) := by decide +kernel
theorem dX10_way_87 : decode cX10_way 87 = .ok (.aload_n 0, 1) := by decide +kernel
theorem dX10_way_88 : decode cX10_way 88 = .ok (.getfield 20, 3) := by decide +kernel
theorem dX10_way_91 : decode cX10_way 91 = .ok (.iconst 2, 1) := by decide +kernel
theorem dX10_way_92 : decode cX10_way 92 = .ok (.iload 5, 2) := by decide +kernel
theorem dX10_way_94 : decode cX10_way 94 = .ok (.imul, 1) := by decide +kernel
theorem dX10_way_95 : decode cX10_way 95 = .ok (.iconst 1, 1) := by decide +kernel
theorem dX10_way_96 : decode cX10_way 96 = .ok (.iadd, 1) := by decide +kernel
theorem dX10_way_97 : decode cX10_way 97 = .ok (.iload 6, 2) := by decide +kernel
theorem dX10_way_99 : decode cX10_way 99 = .ok (.isub, 1) := by decide +kernel
theorem dX10_way_100 : decode cX10_way 100 = .ok (.iaload, 1) := by decide +kernel
theorem dX10_way_101 : decode cX10_way 101 = .ok (.imul, 1) := by decide +kernel
theorem dX10_way_102 : decode cX10_way 102 = .ok (.aload_n 0, 1) := by decide +kernel
theorem dX10_way_103 : decode cX10_way 103 = .ok (.getfield 29, 3) := by decide +kernel
theorem dX10_way_106 : decode cX10_way 106 = .ok (.iload_n 2, 1) := by decide +kernel
theorem dX10_way_107 : decode cX10_way 107 = .ok (.iaload, 1) := by decide +kernel
theorem dX10_way_108 : decode cX10_way 108 = .ok (.iadd, 1) := by decide +kernel
theorem dX10_way_109 : decode cX10_way 109 = .ok (.iaload, 1) := by decide +kernel
theorem dX10_way_110 : decode cX10_way 110 = .ok (.imul, 1) := by decide +kernel
theorem dX10_way_111 : decode cX10_way 111 = .ok (.aload_n 0, 1) := by decide +kernel
theorem dX10_way_112 : decode cX10_way 112 = .ok (.getfield 23, 3) := by decide +kernel
theorem dX10_way_115 : decode cX10_way 115 = .ok (.iload 5, 2) := by decide +kernel
theorem dX10_way_117 : decode cX10_way 117 = .ok (.iaload, 1) := by decide +kernel
theorem dX10_way_118 : decode cX10_way 118 = .ok (.iadd, 1) := by decide +kernel
theorem dX10_way_119 : decode cX10_way 119 = .ok (.istore 8, 2) := by decide +kernel
theorem dX10_way_121 : decode cX10_way 121 = .ok (.iload 7, 2) := by decide +kernel
theorem dX10_way_123 : decode cX10_way 123 = .ok (.ifCond .eq 28, 3) := by decide +kernel
theorem dX10_way_126 : decode cX10_way 126 = .ok (.iload_n 3, 1) := by decide +kernel
theorem dX10_way_127 : decode cX10_way 127 = .ok (.bipush (-9), 2) := by decide +kernel
theorem dX10_way_129 : decode cX10_way 129 = .ok (.if_icmp .eq 10, 3) := by decide +kernel
theorem dX10_way_132 : decode cX10_way 132 = .ok (.iload 8, 2) := by decide +kernel
theorem dX10_way_134 : decode cX10_way 134 = .ok (.iload 4, 2) := by decide +kernel
theorem dX10_way_136 : decode cX10_way 136 = .ok (.if_icmp .ge 15, 3) := by decide +kernel
theorem dX10_way_139 : decode cX10_way 139 = .ok (.iconst 2, 1) := by decide +kernel
theorem dX10_way_140 : decode cX10_way 140 = .ok (.iload 5, 2) := by decide +kernel
theorem dX10_way_142 : decode cX10_way 142 = .ok (.imul, 1) := by decide +kernel
theorem dX10_way_143 : decode cX10_way 143 = .ok (.iload 6, 2) := by decide +kernel
theorem dX10_way_145 : decode cX10_way 145 = .ok (.iadd, 1) := by decide +kernel
theorem dX10_way_146 : decode cX10_way 146 = .ok (.istore_n 3, 1) := by decide +kernel
theorem dX10_way_147 : decode cX10_way 147 = .ok (.iload 8, 2) := by decide +kernel
theorem dX10_way_149 : decode cX10_way 149 = .ok (.istore 4, 2) := by decide +kernel
theorem dX10_way_151 : decode cX10_way 151 = .ok (.iinc 6 1, 3) := by decide +kernel
theorem dX10_way_154 : decode cX10_way 154 = .ok (.goto (-131), 3) := by decide +kernel
theorem dX10_way_157 : decode cX10_way 157 = .ok (.iinc 5 1, 3) := by decide +kernel
theorem dX10_way_160 : decode cX10_way 160 = .ok (.goto (-151), 3) := by decide +kernel
theorem dX10_way_163 : decode cX10_way 163 = .ok (.iload_n 3, 1) := by decide +kernel
theorem dX10_way_164 : decode cX10_way 164 = .ok (.ireturn, 1) := by decide +kernel
theorem dX10_lead_0 : decode cX10_lead 0 = .ok (.iconst 0, 1) := by decide +kernel
theorem dX10_lead_1 : decode cX10_lead 1 = .ok (.istore_n 3, 1) := by decide +kernel
theorem dX10_lead_2 : decode cX10_lead 2 = .ok (.iconst 1, 1) := by decide +kernel
theorem dX10_lead_3 : decode cX10_lead 3 = .ok (.istore 4, 2) := by decide +kernel
theorem dX10_lead_5 : decode cX10_lead 5 = .ok (.iconst 0, 1) := by decide +kernel
theorem dX10_lead_6 : decode cX10_lead 6 = .ok (.istore 5, 2) := by decide +kernel
theorem dX10_lead_8 : decode cX10_lead 8 = .ok (.iload 5, 2) := by decide +kernel
theorem dX10_lead_10 : decode cX10_lead 10 = .ok (.aload_n 0, 1) := by decide +kernel
theorem dX10_lead_11 : decode cX10_lead 11 = .ok (.getfield 32, 3) := by decide +kernel
theorem dX10_lead_14 : decode cX10_lead 14 = .ok (.iload_n 2, 1) := by decide +kernel
theorem dX10_lead_15 : decode cX10_lead 15 = .ok (.iaload, 1) := by decide +kernel
theorem dX10_lead_16 : decode cX10_lead 16 = .ok (.if_icmp .ge 115, 3) := by decide +kernel
theorem dX10_lead_19 : decode cX10_lead 19 = .ok (.iload 4, 2) := by decide +kernel
theorem dX10_lead_21 : decode cX10_lead 21 = .ok (.ifCond .eq 110, 3) := by decide +kernel
theorem dX10_lead_24 : decode cX10_lead 24 = .ok (.aload_n 0, 1) := by decide +kernel
theorem dX10_lead_25 : decode cX10_lead 25 = .ok (.aload_n 1, 1) := by decide +kernel
theorem dX10_lead_26 : decode cX10_lead 26 = .ok (.iload_n 2, 1) := by decide +kernel
theorem dX10_lead_27 : decode cX10_lead 27 = .ok (.invokevirtual 139, 3) := by decide +kernel
theorem dX10_lead_30 : decode cX10_lead 30 = .ok (.istore 6, 2) := by decide +kernel
theorem dX10_lead_32 : decode cX10_lead 32 = .ok (.iload 6, 2) := by decide +kernel
theorem dX10_lead_34 : decode cX10_lead 34 = .ok (.bipush (-9), 2) := by decide +kernel
theorem dX10_lead_36 : decode cX10_lead 36 = .ok (.if_icmp .ne 7, 3) := by decide +kernel
theorem dX10_lead_39 : decode cX10_lead 39 = .ok (.iconst 1, 1) := by decide +kernel
theorem dX10_lead_40 : decode cX10_lead 40 = .ok (.goto 4, 3) := by decide +kernel
theorem dX10_lead_43 : decode cX10_lead 43 = .ok (.iconst 0, 1) := by decide +kernel
theorem dX10_lead_44 : decode cX10_lead 44 = .ok (.istore_n 3, 1) := by decide +kernel
theorem dX10_lead_45 : decode cX10_lead 45 = .ok (.iload_n 3, 1) := by decide +kernel
theorem dX10_lead_46 : decode cX10_lead 46 = .ok (.ifCond .ne 56, 3) := by decide +kernel
theorem dX10_lead_49 : decode cX10_lead 49 = .ok (.aload_n 1, 1) := by decide +kernel
theorem dX10_lead_50 : decode cX10_lead 50 = .ok (.iconst 5, 1) := by decide +kernel
theorem dX10_lead_51 : decode cX10_lead 51 = .ok (.iload 6, 2) := by decide +kernel
theorem dX10_lead_53 : decode cX10_lead 53 = .ok (.iconst 2, 1) := by decide +kernel
theorem dX10_lead_54 : decode cX10_lead 54 = .ok (.idiv, 1) := by decide +kernel
theorem dX10_lead_55 : decode cX10_lead 55 = .ok (.iadd, 1) := by decide +kernel
theorem dX10_lead_56 : decode cX10_lead 56 = .ok (.dup2, 1) := by decide +kernel
theorem dX10_lead_57 : decode cX10_lead 57 = .ok (.iaload, 1) := by decide +kernel
theorem dX10_lead_58 : decode cX10_lead 58 = .ok (.iconst 1, 1) := by decide +kernel
theorem dX10_lead_59 : decode cX10_lead 59 = .ok (.iload 6, 2) := by decide +kernel
theorem dX10_lead_61 : decode cX10_lead 61 = .ok (.iconst 2, 1) := by decide +kernel
theorem dX10_lead_62 : decode cX10_lead 62 = .ok (.irem, 1) := by decide +kernel
theorem dX10_lead_63 : decode cX10_lead 63 = .ok (.ishl, 1) := by decide +kernel
theorem dX10_lead_64 : decode cX10_lead 64 = .ok (.ior, 1) := by decide +kernel
theorem dX10_lead_65 : decode cX10_lead 65 = .ok (.iastore, 1) := by decide +kernel
theorem dX10_lead_66 : decode cX10_lead 66 = .ok (.aload_n 1, 1) := by decide +kernel
theorem dX10_lead_67 : decode cX10_lead 67 = .ok (.iconst 0, 1) := by decide +kernel
theorem dX10_lead_68 : decode cX10_lead 68 = .ok (.aload_n 0, 1) := by decide +kernel
theorem dX10_lead_69 : decode cX10_lead 69 = .ok (.getfield 20, 3) := by decide +kernel
theorem dX10_lead_72 : decode cX10_lead 72 = .ok (.iconst 2, 1) := by decide +kernel
theorem dX10_lead_73 : decode cX10_lead 73 = .ok (.iload 6, 2) := by decide +kernel
theorem dX10_lead_75 : decode cX10_lead 75 = .ok (.iconst 2, 1) := by decide +kernel
theorem dX10_lead_76 : decode cX10_lead 76 = .ok (.idiv, 1) := by decide +kernel
theorem dX10_lead_77 : decode cX10_lead 77 = .ok (.imul, 1) := by decide +kernel
theorem dX10_lead_78 : decode cX10_lead 78 = .ok (.iconst 1, 1) := by decide +kernel
theorem dX10_lead_79 : decode cX10_lead 79 = .ok (.iadd, 1) := by decide +kernel
theorem dX10_lead_80 : decode cX10_lead 80 = .ok (.iload 6, 2) := by decide +kernel
theorem dX10_lead_82 : decode cX10_lead 82 = .ok (.iconst 2, 1) := by decide +kernel
theorem dX10_lead_83 : decode cX10_lead 83 = .ok (.irem, 1) := by decide +kernel
theorem dX10_lead_84 : decode cX10_lead 84 = .ok (.isub, 1) := by decide +kernel
theorem dX10_lead_85 : decode cX10_lead 85 = .ok (.iaload, 1) := by decide +kernel
theorem dX10_lead_86 : decode cX10_lead 86 = .ok (.iastore, 1) := by decide +kernel
theorem dX10_lead_87 : decode cX10_lead 87 = .ok (.aload_n 1, 1) := by decide +kernel
theorem dX10_lead_88 : decode cX10_lead 88 = .ok (.iconst 1, 1) := by decide +kernel
theorem dX10_lead_89 : decode cX10_lead 89 = .ok (.dup2, 1) := by decide +kernel
theorem dX10_lead_90 : decode cX10_lead 90 = .ok (.iaload, 1) := by decide +kernel
theorem dX10_lead_91 : decode cX10_lead 91 = .ok (.aload_n 0, 1) := by decide +kernel
theorem dX10_lead_92 : decode cX10_lead 92 = .ok (.getfield 23, 3) := by decide +kernel
theorem dX10_lead_95 : decode cX10_lead 95 = .ok (.iload 6, 2) := by decide +kernel
theorem dX10_lead_97 : decode cX10_lead 97 = .ok (.iconst 2, 1) := by decide +kernel
theorem dX10_lead_98 : decode cX10_lead 98 = .ok (.idiv, 1) := by decide +kernel
theorem dX10_lead_99 : decode cX10_lead 99 = .ok (.iaload, 1) := by decide +kernel
theorem dX10_lead_100 : decode cX10_lead 100 = .ok (.iadd, 1) := by decide +kernel
theorem dX10_lead_101 : decode cX10_lead 101 = .ok (.iastore, 1) := by decide +kernel
theorem dX10_lead_102 : decode cX10_lead 102 = .ok (.iload_n 3, 1) := by decide +kernel
theorem dX10_lead_103 : decode cX10_lead 103 = .ok (.ifCond .ne 19, 3) := by decide +kernel
theorem dX10_lead_106 : decode cX10_lead 106 = .ok (.aload_n 1, 1) := by decide +kernel
theorem dX10_lead_107 : decode cX10_lead 107 = .ok (.iconst 0, 1) := by decide +kernel
theorem dX10_lead_108 : decode cX10_lead 108 = .ok (.iaload, 1) := by decide +kernel
theorem dX10_lead_109 : decode cX10_lead 109 = .ok (.aload_n 0, 1) := by decide +kernel
theorem dX10_lead_110 : decode cX10_lead 110 = .ok (.getfield 29, 3) := by decide +kernel
theorem dX10_lead_113 : decode cX10_lead 113 = .ok (.iload_n 2, 1) := by decide +kernel
theorem dX10_lead_114 : decode cX10_lead 114 = .ok (.iaload, 1) := by decide +kernel
theorem dX10_lead_115 : decode cX10_lead 115 = .ok (.if_icmp .eq 7, 3) := by decide +kernel
theorem dX10_lead_118 : decode cX10_lead 118 = .ok (.iconst 1, 1) := by decide +kernel
theorem dX10_lead_119 : decode cX10_lead 119 = .ok (.goto 4, 3) := by decide +kernel
theorem dX10_lead_122 : decode cX10_lead 122 = .ok (.iconst 0, 1) := by decide +kernel
theorem dX10_lead_123 : decode cX10_lead 123 = .ok (.istore 4, 2) := by decide +kernel
theorem dX10_lead_125 : decode cX10_lead 125 = .ok (.iinc 5 1, 3) := by decide +kernel
theorem dX10_lead_128 : decode cX10_lead 128 = .ok (.goto (-120), 3) := by decide +kernel
theorem dX10_lead_131 : decode cX10_lead 131 = .ok (.aload_n 1, 1) := by decide +kernel
theorem dX10_lead_132 : decode cX10_lead 132 = .ok (.iconst 2, 1) := by decide +kernel
theorem dX10_lead_133 : decode cX10_lead 133 = .ok (.dup2, 1) := by decide +kernel
theorem dX10_lead_134 : decode cX10_lead 134 = .ok (.iaload, 1) := by decide +kernel
theorem dX10_lead_135 : decode cX10_lead 135 = .ok (.iload_n 3, 1) := by decide +kernel
theorem dX10_lead_136 : decode cX10_lead 136 = .ok (.ifCond .eq 7, 3) := by decide +kernel
theorem dX10_lead_139 : decode cX10_lead 139 = .ok (.iconst 1, 1) := by decide +kernel
theorem dX10_lead_140 : decode cX10_lead 140 = .ok (.goto 4, 3) := by decide +kernel
theorem dX10_lead_143 : decode cX10_lead 143 = .ok (.iconst 0, 1) := by decide +kernel
theorem dX10_lead_144 : decode cX10_lead 144 = .ok (.iadd, 1) := by decide +kernel
theorem dX10_lead_145 : decode cX10_lead 145 = .ok (.iastore, 1) := by decide +kernel
theorem dX10_lead_146 : decode cX10_lead 146 = .ok (.aload_n 1, 1) := by decide +kernel
theorem dX10_lead_147 : decode cX10_lead 147 = .ok (.iconst 3, 1) := by decide +kernel
theorem dX10_lead_148 : decode cX10_lead 148 = .ok (.dup2, 1) := by decide +kernel
theorem dX10_lead_149 : decode cX10_lead 149 = .ok (.iaload, 1) := by decide +kernel
theorem dX10_lead_150 : decode cX10_lead 150 = .ok (.iconst 1, 1) := by decide +kernel
theorem dX10_lead_151 : decode cX10_lead 151 = .ok (.iload_n 2, 1) := by decide +kernel
theorem dX10_lead_152 : decode cX10_lead 152 = .ok (.ishl, 1) := by decide +kernel
theorem dX10_lead_153 : decode cX10_lead 153 = .ok (.ior, 1) := by decide +kernel
theorem dX10_lead_154 : decode cX10_lead 154 = .ok (.iastore, 1) := by decide +kernel
theorem dX10_lead_155 : decode cX10_lead 155 = .ok (.iload_n 3, 1) := by decide +kernel
theorem dX10_lead_156 : decode cX10_lead 156 = .ok (.ireturn, 1) := by decide +kernel
theorem dX10_walked_0 : decode cX10_walked 0 = .ok (.iconst 0, 1) := by decide +kernel
theorem dX10_walked_1 : decode cX10_walked 1 = .ok (.istore_n 2, 1) := by decide +kernel
theorem dX10_walked_2 : decode cX10_walked 2 = .ok (.iconst 0, 1) := by decide +kernel
theorem dX10_walked_3 : decode cX10_walked 3 = .ok (.istore_n 3, 1) := by decide +kernel
theorem dX10_walked_4 : decode cX10_walked 4 = .ok (.iload_n 3, 1) := by decide +kernel
theorem dX10_walked_5 : decode cX10_walked 5 = .ok (.aload_n 0, 1) := by decide +kernel
theorem dX10_walked_6 : decode cX10_walked 6 = .ok (.getfield 17, 3) := by decide +kernel
theorem dX10_walked_9 : decode cX10_walked 9 = .ok (.iconst 0, 1) := by decide +kernel
theorem dX10_walked_10 : decode cX10_walked 10 = .ok (.iaload, 1) := by decide +kernel
theorem dX10_walked_11 : decode cX10_walked 11 = .ok (.if_icmp .ge 27, 3) := by decide +kernel
theorem dX10_walked_14 : decode cX10_walked 14 = .ok (.iload_n 2, 1) := by decide +kernel
theorem dX10_walked_15 : decode cX10_walked 15 = .ok (.aload_n 1, 1) := by decide +kernel
theorem dX10_walked_16 : decode cX10_walked 16 = .ok (.iconst 5, 1) := by decide +kernel
theorem dX10_walked_17 : decode cX10_walked 17 = .ok (.iload_n 3, 1) := by decide +kernel
theorem dX10_walked_18 : decode cX10_walked 18 = .ok (.iadd, 1) := by decide +kernel
theorem dX10_walked_19 : decode cX10_walked 19 = .ok (.iaload, 1) := by decide +kernel
theorem dX10_walked_20 : decode cX10_walked 20 = .ok (.ifCond .le 9, 3) := by decide +kernel
theorem dX10_walked_23 : decode cX10_walked 23 = .ok (.iconst 1, 1) := by decide +kernel
theorem dX10_walked_24 : decode cX10_walked 24 = .ok (.iload_n 3, 1) := by decide +kernel
theorem dX10_walked_25 : decode cX10_walked 25 = .ok (.ishl, 1) := by decide +kernel
theorem dX10_walked_26 : decode cX10_walked 26 = .ok (.goto 4, 3) := by decide +kernel
theorem dX10_walked_29 : decode cX10_walked 29 = .ok (.iconst 0, 1) := by decide +kernel
theorem dX10_walked_30 : decode cX10_walked 30 = .ok (.ior, 1) := by decide +kernel
theorem dX10_walked_31 : decode cX10_walked 31 = .ok (.istore_n 2, 1) := by decide +kernel
theorem dX10_walked_32 : decode cX10_walked 32 = .ok (.iinc 3 1, 3) := by decide +kernel
theorem dX10_walked_35 : decode cX10_walked 35 = .ok (.goto (-31), 3) := by decide +kernel
theorem dX10_walked_38 : decode cX10_walked 38 = .ok (.iload_n 2, 1) := by decide +kernel
theorem dX10_walked_39 : decode cX10_walked 39 = .ok (.ireturn, 1) := by decide +kernel
theorem dX10_know_0 : decode cX10_know 0 = .ok (.aload_n 0, 1) := by decide +kernel
theorem dX10_know_1 : decode cX10_know 1 = .ok (.getfield 38, 3) := by decide +kernel
theorem dX10_know_4 : decode cX10_know 4 = .ok (.bipush 17, 2) := by decide +kernel
theorem dX10_know_6 : decode cX10_know 6 = .ok (.iaload, 1) := by decide +kernel
theorem dX10_know_7 : decode cX10_know 7 = .ok (.bipush 10, 2) := by decide +kernel
theorem dX10_know_9 : decode cX10_know 9 = .ok (.if_icmp .ne 47, 3) := by decide +kernel
theorem dX10_know_12 : decode cX10_know 12 = .ok (.iconst 0, 1) := by decide +kernel
theorem dX10_know_13 : decode cX10_know 13 = .ok (.istore_n 1, 1) := by decide +kernel
theorem dX10_know_14 : decode cX10_know 14 = .ok (.iload_n 1, 1) := by decide +kernel
theorem dX10_know_15 : decode cX10_know 15 = .ok (.sipush 153, 3) := by decide +kernel
theorem dX10_know_18 : decode cX10_know 18 = .ok (.if_icmp .ge 27, 3) := by decide +kernel
theorem dX10_know_21 : decode cX10_know 21 = .ok (.aload_n 0, 1) := by decide +kernel
theorem dX10_know_22 : decode cX10_know 22 = .ok (.getfield 38, 3) := by decide +kernel
theorem dX10_know_25 : decode cX10_know 25 = .ok (.bipush 18, 2) := by decide +kernel
theorem dX10_know_27 : decode cX10_know 27 = .ok (.iload_n 1, 1) := by decide +kernel
theorem dX10_know_28 : decode cX10_know 28 = .ok (.iadd, 1) := by decide +kernel
theorem dX10_know_29 : decode cX10_know 29 = .ok (.aload_n 0, 1) := by decide +kernel
theorem dX10_know_30 : decode cX10_know 30 = .ok (.getfield 38, 3) := by decide +kernel
theorem dX10_know_33 : decode cX10_know 33 = .ok (.bipush 35, 2) := by decide +kernel
theorem dX10_know_35 : decode cX10_know 35 = .ok (.iload_n 1, 1) := by decide +kernel
theorem dX10_know_36 : decode cX10_know 36 = .ok (.iadd, 1) := by decide +kernel
theorem dX10_know_37 : decode cX10_know 37 = .ok (.iaload, 1) := by decide +kernel
theorem dX10_know_38 : decode cX10_know 38 = .ok (.iastore, 1) := by decide +kernel
theorem dX10_know_39 : decode cX10_know 39 = .ok (.iinc 1 1, 3) := by decide +kernel
theorem dX10_know_42 : decode cX10_know 42 = .ok (.goto (-28), 3) := by decide +kernel
theorem dX10_know_45 : decode cX10_know 45 = .ok (.aload_n 0, 1) := by decide +kernel
theorem dX10_know_46 : decode cX10_know 46 = .ok (.getfield 38, 3) := by decide +kernel
theorem dX10_know_49 : decode cX10_know 49 = .ok (.bipush 17, 2) := by decide +kernel
theorem dX10_know_51 : decode cX10_know 51 = .ok (.dup2, 1) := by decide +kernel
theorem dX10_know_52 : decode cX10_know 52 = .ok (.iaload, 1) := by decide +kernel
theorem dX10_know_53 : decode cX10_know 53 = .ok (.iconst 1, 1) := by decide +kernel
theorem dX10_know_54 : decode cX10_know 54 = .ok (.isub, 1) := by decide +kernel
theorem dX10_know_55 : decode cX10_know 55 = .ok (.iastore, 1) := by decide +kernel
theorem dX10_know_56 : decode cX10_know 56 = .ok (.iconst 0, 1) := by decide +kernel
theorem dX10_know_57 : decode cX10_know 57 = .ok (.istore_n 1, 1) := by decide +kernel
theorem dX10_know_58 : decode cX10_know 58 = .ok (.iload_n 1, 1) := by decide +kernel
theorem dX10_know_59 : decode cX10_know 59 = .ok (.bipush 17, 2) := by decide +kernel
theorem dX10_know_61 : decode cX10_know 61 = .ok (.if_icmp .ge 35, 3) := by decide +kernel
theorem dX10_know_64 : decode cX10_know 64 = .ok (.aload_n 0, 1) := by decide +kernel
theorem dX10_know_65 : decode cX10_know 65 = .ok (.getfield 38, 3) := by decide +kernel
theorem dX10_know_68 : decode cX10_know 68 = .ok (.bipush 18, 2) := by decide +kernel
theorem dX10_know_70 : decode cX10_know 70 = .ok (.bipush 17, 2) := by decide +kernel
theorem dX10_know_72 : decode cX10_know 72 = .ok (.aload_n 0, 1) := by decide +kernel
theorem dX10_know_73 : decode cX10_know 73 = .ok (.getfield 38, 3) := by decide +kernel
theorem dX10_know_76 : decode cX10_know 76 = .ok (.bipush 17, 2) := by decide +kernel
theorem dX10_know_78 : decode cX10_know 78 = .ok (.iaload, 1) := by decide +kernel
theorem dX10_know_79 : decode cX10_know 79 = .ok (.imul, 1) := by decide +kernel
theorem dX10_know_80 : decode cX10_know 80 = .ok (.iadd, 1) := by decide +kernel
theorem dX10_know_81 : decode cX10_know 81 = .ok (.iload_n 1, 1) := by decide +kernel
theorem dX10_know_82 : decode cX10_know 82 = .ok (.iadd, 1) := by decide +kernel
theorem dX10_know_83 : decode cX10_know 83 = .ok (.aload_n 0, 1) := by decide +kernel
theorem dX10_know_84 : decode cX10_know 84 = .ok (.getfield 38, 3) := by decide +kernel
theorem dX10_know_87 : decode cX10_know 87 = .ok (.iload_n 1, 1) := by decide +kernel
theorem dX10_know_88 : decode cX10_know 88 = .ok (.iaload, 1) := by decide +kernel
theorem dX10_know_89 : decode cX10_know 89 = .ok (.iastore, 1) := by decide +kernel
theorem dX10_know_90 : decode cX10_know 90 = .ok (.iinc 1 1, 3) := by decide +kernel
theorem dX10_know_93 : decode cX10_know 93 = .ok (.goto (-35), 3) := by decide +kernel
theorem dX10_know_96 : decode cX10_know 96 = .ok (.aload_n 0, 1) := by decide +kernel
theorem dX10_know_97 : decode cX10_know 97 = .ok (.getfield 38, 3) := by decide +kernel
theorem dX10_know_100 : decode cX10_know 100 = .ok (.bipush 17, 2) := by decide +kernel
theorem dX10_know_102 : decode cX10_know 102 = .ok (.dup2, 1) := by decide +kernel
theorem dX10_know_103 : decode cX10_know 103 = .ok (.iaload, 1) := by decide +kernel
theorem dX10_know_104 : decode cX10_know 104 = .ok (.iconst 1, 1) := by decide +kernel
theorem dX10_know_105 : decode cX10_know 105 = .ok (.iadd, 1) := by decide +kernel
theorem dX10_know_106 : decode cX10_know 106 = .ok (.iastore, 1) := by decide +kernel
theorem dX10_know_107 : decode cX10_know 107 = .ok (.return_, 1) := by decide +kernel
theorem dX10_leads_0 : decode cX10_leads 0 = .ok (.aload_n 0, 1) := by decide +kernel
theorem dX10_leads_1 : decode cX10_leads 1 = .ok (.iload_n 1, 1) := by decide +kernel
theorem dX10_leads_2 : decode cX10_leads 2 = .ok (.invokevirtual 133, 3) := by decide +kernel
theorem dX10_leads_5 : decode cX10_leads 5 = .ok (.ifCond .ne 5, 3) := by decide +kernel
theorem dX10_leads_8 : decode cX10_leads 8 = .ok (.iconst (-1), 1) := by decide +kernel
theorem dX10_leads_9 : decode cX10_leads 9 = .ok (.ireturn, 1) := by decide +kernel
theorem dX10_leads_10 : decode cX10_leads 10 = .ok (.aload_n 0, 1) := by decide +kernel
theorem dX10_leads_11 : decode cX10_leads 11 = .ok (.getfield 38, 3) := by decide +kernel
theorem dX10_leads_14 : decode cX10_leads 14 = .ok (.iconst 3, 1) := by decide +kernel
theorem dX10_leads_15 : decode cX10_leads 15 = .ok (.iaload, 1) := by decide +kernel
theorem dX10_leads_16 : decode cX10_leads 16 = .ok (.iload_n 1, 1) := by decide +kernel
theorem dX10_leads_17 : decode cX10_leads 17 = .ok (.ishr, 1) := by decide +kernel
theorem dX10_leads_18 : decode cX10_leads 18 = .ok (.iconst 1, 1) := by decide +kernel
theorem dX10_leads_19 : decode cX10_leads 19 = .ok (.iand, 1) := by decide +kernel
theorem dX10_leads_20 : decode cX10_leads 20 = .ok (.iconst 1, 1) := by decide +kernel
theorem dX10_leads_21 : decode cX10_leads 21 = .ok (.if_icmp .ne 6, 3) := by decide +kernel
theorem dX10_leads_24 : decode cX10_leads 24 = .ok (.bipush (-2), 2) := by decide +kernel
theorem dX10_leads_26 : decode cX10_leads 26 = .ok (.ireturn, 1) := by decide +kernel
theorem dX10_leads_27 : decode cX10_leads 27 = .ok (.aload_n 0, 1) := by decide +kernel
theorem dX10_leads_28 : decode cX10_leads 28 = .ok (.invokevirtual 143, 3) := by decide +kernel
theorem dX10_leads_31 : decode cX10_leads 31 = .ok (.aload_n 0, 1) := by decide +kernel
theorem dX10_leads_32 : decode cX10_leads 32 = .ok (.aload_n 0, 1) := by decide +kernel
theorem dX10_leads_33 : decode cX10_leads 33 = .ok (.getfield 38, 3) := by decide +kernel
theorem dX10_leads_36 : decode cX10_leads 36 = .ok (.iload_n 1, 1) := by decide +kernel
theorem dX10_leads_37 : decode cX10_leads 37 = .ok (.invokevirtual 146, 3) := by decide +kernel
theorem dX10_leads_40 : decode cX10_leads 40 = .ok (.pop, 1) := by decide +kernel
theorem dX10_leads_41 : decode cX10_leads 41 = .ok (.aload_n 0, 1) := by decide +kernel
theorem dX10_leads_42 : decode cX10_leads 42 = .ok (.getfield 38, 3) := by decide +kernel
theorem dX10_leads_45 : decode cX10_leads 45 = .ok (.iconst 0, 1) := by decide +kernel
theorem dX10_leads_46 : decode cX10_leads 46 = .ok (.iaload, 1) := by decide +kernel
theorem dX10_leads_47 : decode cX10_leads 47 = .ok (.ireturn, 1) := by decide +kernel
theorem dX10_shuts_0 : decode cX10_shuts 0 = .ok (.aload_n 0, 1) := by decide +kernel
theorem dX10_shuts_1 : decode cX10_shuts 1 = .ok (.iload_n 1, 1) := by decide +kernel
theorem dX10_shuts_2 : decode cX10_shuts 2 = .ok (.invokevirtual 130, 3) := by decide +kernel
theorem dX10_shuts_5 : decode cX10_shuts 5 = .ok (.ifCond .eq 12, 3) := by decide +kernel
theorem dX10_shuts_8 : decode cX10_shuts 8 = .ok (.iload_n 2, 1) := by decide +kernel
theorem dX10_shuts_9 : decode cX10_shuts 9 = .ok (.iconst 0, 1) := by decide +kernel
theorem dX10_shuts_10 : decode cX10_shuts 10 = .ok (.iconst 1, 1) := by decide +kernel
theorem dX10_shuts_11 : decode cX10_shuts 11 = .ok (.invokestatic 75, 3) := by decide +kernel
theorem dX10_shuts_14 : decode cX10_shuts 14 = .ok (.ifCond .ne 5, 3) := by decide +kernel
theorem dX10_shuts_17 : decode cX10_shuts 17 = .ok (.iconst (-1), 1) := by decide +kernel
theorem dX10_shuts_18 : decode cX10_shuts 18 = .ok (.ireturn, 1) := by decide +kernel
theorem dX10_shuts_19 : decode cX10_shuts 19 = .ok (.aload_n 0, 1) := by decide +kernel
theorem dX10_shuts_20 : decode cX10_shuts 20 = .ok (.getfield 38, 3) := by decide +kernel
theorem dX10_shuts_23 : decode cX10_shuts 23 = .ok (.iconst 4, 1) := by decide +kernel
theorem dX10_shuts_24 : decode cX10_shuts 24 = .ok (.iaload, 1) := by decide +kernel
theorem dX10_shuts_25 : decode cX10_shuts 25 = .ok (.iload_n 1, 1) := by decide +kernel
theorem dX10_shuts_26 : decode cX10_shuts 26 = .ok (.ishr, 1) := by decide +kernel
theorem dX10_shuts_27 : decode cX10_shuts 27 = .ok (.iconst 1, 1) := by decide +kernel
theorem dX10_shuts_28 : decode cX10_shuts 28 = .ok (.iand, 1) := by decide +kernel
theorem dX10_shuts_29 : decode cX10_shuts 29 = .ok (.iload_n 2, 1) := by decide +kernel
theorem dX10_shuts_30 : decode cX10_shuts 30 = .ok (.if_icmp .ne 6, 3) := by decide +kernel
theorem dX10_shuts_33 : decode cX10_shuts 33 = .ok (.bipush (-2), 2) := by decide +kernel
theorem dX10_shuts_35 : decode cX10_shuts 35 = .ok (.ireturn, 1) := by decide +kernel
theorem dX10_shuts_36 : decode cX10_shuts 36 = .ok (.aload_n 0, 1) := by decide +kernel
theorem dX10_shuts_37 : decode cX10_shuts 37 = .ok (.invokevirtual 143, 3) := by decide +kernel
theorem dX10_shuts_40 : decode cX10_shuts 40 = .ok (.aload_n 0, 1) := by decide +kernel
theorem dX10_shuts_41 : decode cX10_shuts 41 = .ok (.getfield 38, 3) := by decide +kernel
theorem dX10_shuts_44 : decode cX10_shuts 44 = .ok (.iconst 4, 1) := by decide +kernel
theorem dX10_shuts_45 : decode cX10_shuts 45 = .ok (.dup2, 1) := by decide +kernel
theorem dX10_shuts_46 : decode cX10_shuts 46 = .ok (.iaload, 1) := by decide +kernel
theorem dX10_shuts_47 : decode cX10_shuts 47 = .ok (.iconst 1, 1) := by decide +kernel
theorem dX10_shuts_48 : decode cX10_shuts 48 = .ok (.iload_n 1, 1) := by decide +kernel
theorem dX10_shuts_49 : decode cX10_shuts 49 = .ok (.ishl, 1) := by decide +kernel
theorem dX10_shuts_50 : decode cX10_shuts 50 = .ok (.ixor, 1) := by decide +kernel
theorem dX10_shuts_51 : decode cX10_shuts 51 = .ok (.iastore, 1) := by decide +kernel
theorem dX10_shuts_52 : decode cX10_shuts 52 = .ok (.aload_n 0, 1) := by decide +kernel
theorem dX10_shuts_53 : decode cX10_shuts 53 = .ok (.getfield 38, 3) := by decide +kernel
theorem dX10_shuts_56 : decode cX10_shuts 56 = .ok (.iconst 4, 1) := by decide +kernel
theorem dX10_shuts_57 : decode cX10_shuts 57 = .ok (.iaload, 1) := by decide +kernel
theorem dX10_shuts_58 : decode cX10_shuts 58 = .ok (.invokestatic 150, 3) := by decide +kernel
theorem dX10_shuts_61 : decode cX10_shuts 61 = .ok (.ireturn, 1) := by decide +kernel
theorem dX10_undo_0 : decode cX10_undo 0 = .ok (.aload_n 0, 1) := by decide +kernel
theorem dX10_undo_1 : decode cX10_undo 1 = .ok (.getfield 38, 3) := by decide +kernel
theorem dX10_undo_4 : decode cX10_undo 4 = .ok (.bipush 17, 2) := by decide +kernel
theorem dX10_undo_6 : decode cX10_undo 6 = .ok (.iaload, 1) := by decide +kernel
theorem dX10_undo_7 : decode cX10_undo 7 = .ok (.ifCond .ne 6, 3) := by decide +kernel
theorem dX10_undo_10 : decode cX10_undo 10 = .ok (.bipush (-2), 2) := by decide +kernel
theorem dX10_undo_12 : decode cX10_undo 12 = .ok (.ireturn, 1) := by decide +kernel
theorem dX10_undo_13 : decode cX10_undo 13 = .ok (.aload_n 0, 1) := by decide +kernel
theorem dX10_undo_14 : decode cX10_undo 14 = .ok (.getfield 38, 3) := by decide +kernel
theorem dX10_undo_17 : decode cX10_undo 17 = .ok (.bipush 17, 2) := by decide +kernel
theorem dX10_undo_19 : decode cX10_undo 19 = .ok (.dup2, 1) := by decide +kernel
theorem dX10_undo_20 : decode cX10_undo 20 = .ok (.iaload, 1) := by decide +kernel
theorem dX10_undo_21 : decode cX10_undo 21 = .ok (.iconst 1, 1) := by decide +kernel
theorem dX10_undo_22 : decode cX10_undo 22 = .ok (.isub, 1) := by decide +kernel
theorem dX10_undo_23 : decode cX10_undo 23 = .ok (.iastore, 1) := by decide +kernel
theorem dX10_undo_24 : decode cX10_undo 24 = .ok (.iconst 0, 1) := by decide +kernel
theorem dX10_undo_25 : decode cX10_undo 25 = .ok (.istore_n 1, 1) := by decide +kernel
theorem dX10_undo_26 : decode cX10_undo 26 = .ok (.iload_n 1, 1) := by decide +kernel
theorem dX10_undo_27 : decode cX10_undo 27 = .ok (.bipush 17, 2) := by decide +kernel
theorem dX10_undo_29 : decode cX10_undo 29 = .ok (.if_icmp .ge 35, 3) := by decide +kernel
theorem dX10_undo_32 : decode cX10_undo 32 = .ok (.aload_n 0, 1) := by decide +kernel
theorem dX10_undo_33 : decode cX10_undo 33 = .ok (.getfield 38, 3) := by decide +kernel
theorem dX10_undo_36 : decode cX10_undo 36 = .ok (.iload_n 1, 1) := by decide +kernel
theorem dX10_undo_37 : decode cX10_undo 37 = .ok (.aload_n 0, 1) := by decide +kernel
theorem dX10_undo_38 : decode cX10_undo 38 = .ok (.getfield 38, 3) := by decide +kernel
theorem dX10_undo_41 : decode cX10_undo 41 = .ok (.bipush 18, 2) := by decide +kernel
theorem dX10_undo_43 : decode cX10_undo 43 = .ok (.bipush 17, 2) := by decide +kernel
theorem dX10_undo_45 : decode cX10_undo 45 = .ok (.aload_n 0, 1) := by decide +kernel
theorem dX10_undo_46 : decode cX10_undo 46 = .ok (.getfield 38, 3) := by decide +kernel
theorem dX10_undo_49 : decode cX10_undo 49 = .ok (.bipush 17, 2) := by decide +kernel
theorem dX10_undo_51 : decode cX10_undo 51 = .ok (.iaload, 1) := by decide +kernel
theorem dX10_undo_52 : decode cX10_undo 52 = .ok (.imul, 1) := by decide +kernel
theorem dX10_undo_53 : decode cX10_undo 53 = .ok (.iadd, 1) := by decide +kernel
theorem dX10_undo_54 : decode cX10_undo 54 = .ok (.iload_n 1, 1) := by decide +kernel
theorem dX10_undo_55 : decode cX10_undo 55 = .ok (.iadd, 1) := by decide +kernel
theorem dX10_undo_56 : decode cX10_undo 56 = .ok (.iaload, 1) := by decide +kernel
theorem dX10_undo_57 : decode cX10_undo 57 = .ok (.iastore, 1) := by decide +kernel
theorem dX10_undo_58 : decode cX10_undo 58 = .ok (.iinc 1 1, 3) := by decide +kernel
theorem dX10_undo_61 : decode cX10_undo 61 = .ok (.goto (-35), 3) := by decide +kernel
theorem dX10_undo_64 : decode cX10_undo 64 = .ok (.aload_n 0, 1) := by decide +kernel
theorem dX10_undo_65 : decode cX10_undo 65 = .ok (.getfield 38, 3) := by decide +kernel
theorem dX10_undo_68 : decode cX10_undo 68 = .ok (.bipush 17, 2) := by decide +kernel
theorem dX10_undo_70 : decode cX10_undo 70 = .ok (.iaload, 1) := by decide +kernel
theorem dX10_undo_71 : decode cX10_undo 71 = .ok (.ireturn, 1) := by decide +kernel
theorem dX10_now_0 : decode cX10_now 0 = .ok (.iload_n 1, 1) := by decide +kernel
theorem dX10_now_1 : decode cX10_now 1 = .ok (.tableswitch 83 0 5 #[39, 60, 60, 60, 67, 76], 39) := by decide +kernel
theorem dX10_now_40 : decode cX10_now 40 = .ok (.aload_n 0, 1) := by decide +kernel
theorem dX10_now_41 : decode cX10_now 41 = .ok (.getfield 13, 3) := by decide +kernel
theorem dX10_now_44 : decode cX10_now 44 = .ok (.iconst 0, 1) := by decide +kernel
theorem dX10_now_45 : decode cX10_now 45 = .ok (.iaload, 1) := by decide +kernel
theorem dX10_now_46 : decode cX10_now 46 = .ok (.ifCond .ne 8, 3) := by decide +kernel
theorem dX10_now_49 : decode cX10_now 49 = .ok (.bipush (-9), 2) := by decide +kernel
theorem dX10_now_51 : decode cX10_now 51 = .ok (.goto 9, 3) := by decide +kernel
theorem dX10_now_54 : decode cX10_now 54 = .ok (.aload_n 0, 1) := by decide +kernel
theorem dX10_now_55 : decode cX10_now 55 = .ok (.getfield 38, 3) := by decide +kernel
theorem dX10_now_58 : decode cX10_now 58 = .ok (.iconst 0, 1) := by decide +kernel
theorem dX10_now_59 : decode cX10_now 59 = .ok (.iaload, 1) := by decide +kernel
theorem dX10_now_60 : decode cX10_now 60 = .ok (.ireturn, 1) := by decide +kernel
theorem dX10_now_61 : decode cX10_now 61 = .ok (.aload_n 0, 1) := by decide +kernel
theorem dX10_now_62 : decode cX10_now 62 = .ok (.getfield 38, 3) := by decide +kernel
theorem dX10_now_65 : decode cX10_now 65 = .ok (.iload_n 1, 1) := by decide +kernel
theorem dX10_now_66 : decode cX10_now 66 = .ok (.iaload, 1) := by decide +kernel
theorem dX10_now_67 : decode cX10_now 67 = .ok (.ireturn, 1) := by decide +kernel
theorem dX10_now_68 : decode cX10_now 68 = .ok (.aload_n 0, 1) := by decide +kernel
theorem dX10_now_69 : decode cX10_now 69 = .ok (.aload_n 0, 1) := by decide +kernel
theorem dX10_now_70 : decode cX10_now 70 = .ok (.getfield 38, 3) := by decide +kernel
theorem dX10_now_73 : decode cX10_now 73 = .ok (.invokevirtual 154, 3) := by decide +kernel
theorem dX10_now_76 : decode cX10_now 76 = .ok (.ireturn, 1) := by decide +kernel
theorem dX10_now_77 : decode cX10_now 77 = .ok (.aload_n 0, 1) := by decide +kernel
theorem dX10_now_78 : decode cX10_now 78 = .ok (.getfield 38, 3) := by decide +kernel
theorem dX10_now_81 : decode cX10_now 81 = .ok (.iconst 4, 1) := by decide +kernel
theorem dX10_now_82 : decode cX10_now 82 = .ok (.iaload, 1) := by decide +kernel
theorem dX10_now_83 : decode cX10_now 83 = .ok (.ireturn, 1) := by decide +kernel
theorem dX10_now_84 : decode cX10_now 84 = .ok (.iconst (-1), 1) := by decide +kernel
theorem dX10_now_85 : decode cX10_now 85 = .ok (.ireturn, 1) := by decide +kernel
theorem dX10_firstRow_0 : decode cX10_firstRow 0 = .ok (.aload_n 0, 1) := by decide +kernel
theorem dX10_firstRow_1 : decode cX10_firstRow 1 = .ok (.iconst 0, 1) := by decide +kernel
theorem dX10_firstRow_2 : decode cX10_firstRow 2 = .ok (.putfield 158, 3) := by decide +kernel
theorem dX10_firstRow_5 : decode cX10_firstRow 5 = .ok (.iconst 0, 1) := by decide +kernel
theorem dX10_firstRow_6 : decode cX10_firstRow 6 = .ok (.istore_n 1, 1) := by decide +kernel
theorem dX10_firstRow_7 : decode cX10_firstRow 7 = .ok (.iload_n 1, 1) := by decide +kernel
theorem dX10_firstRow_8 : decode cX10_firstRow 8 = .ok (.aload_n 0, 1) := by decide +kernel
theorem dX10_firstRow_9 : decode cX10_firstRow 9 = .ok (.getfield 26, 3) := by decide +kernel
theorem dX10_firstRow_12 : decode cX10_firstRow 12 = .ok (.iconst 0, 1) := by decide +kernel
theorem dX10_firstRow_13 : decode cX10_firstRow 13 = .ok (.iaload, 1) := by decide +kernel
theorem dX10_firstRow_14 : decode cX10_firstRow 14 = .ok (.if_icmp .ge 42, 3) := by decide +kernel
theorem dX10_firstRow_17 : decode cX10_firstRow 17 = .ok (.aload_n 0, 1) := by decide +kernel
theorem dX10_firstRow_18 : decode cX10_firstRow 18 = .ok (.getfield 38, 3) := by decide +kernel
theorem dX10_firstRow_21 : decode cX10_firstRow 21 = .ok (.iconst 3, 1) := by decide +kernel
theorem dX10_firstRow_22 : decode cX10_firstRow 22 = .ok (.iaload, 1) := by decide +kernel
theorem dX10_firstRow_23 : decode cX10_firstRow 23 = .ok (.iload_n 1, 1) := by decide +kernel
theorem dX10_firstRow_24 : decode cX10_firstRow 24 = .ok (.ishr, 1) := by decide +kernel
theorem dX10_firstRow_25 : decode cX10_firstRow 25 = .ok (.iconst 1, 1) := by decide +kernel
theorem dX10_firstRow_26 : decode cX10_firstRow 26 = .ok (.iand, 1) := by decide +kernel
theorem dX10_firstRow_27 : decode cX10_firstRow 27 = .ok (.ifCond .ne 23, 3) := by decide +kernel
theorem dX10_firstRow_30 : decode cX10_firstRow 30 = .ok (.aload_n 0, 1) := by decide +kernel
theorem dX10_firstRow_31 : decode cX10_firstRow 31 = .ok (.getfield 48, 3) := by decide +kernel
theorem dX10_firstRow_34 : decode cX10_firstRow 34 = .ok (.aload_n 0, 1) := by decide +kernel
theorem dX10_firstRow_35 : decode cX10_firstRow 35 = .ok (.getfield 158, 3) := by decide +kernel
theorem dX10_firstRow_38 : decode cX10_firstRow 38 = .ok (.iload_n 1, 1) := by decide +kernel
theorem dX10_firstRow_39 : decode cX10_firstRow 39 = .ok (.iastore, 1) := by decide +kernel
theorem dX10_firstRow_40 : decode cX10_firstRow 40 = .ok (.aload_n 0, 1) := by decide +kernel
theorem dX10_firstRow_41 : decode cX10_firstRow 41 = .ok (.dup, 1) := by decide +kernel
theorem dX10_firstRow_42 : decode cX10_firstRow 42 = .ok (.getfield 158, 3) := by decide +kernel
theorem dX10_firstRow_45 : decode cX10_firstRow 45 = .ok (.iconst 1, 1) := by decide +kernel
theorem dX10_firstRow_46 : decode cX10_firstRow 46 = .ok (.iadd, 1) := by decide +kernel
theorem dX10_firstRow_47 : decode cX10_firstRow 47 = .ok (.putfield 158, 3) := by decide +kernel
theorem dX10_firstRow_50 : decode cX10_firstRow 50 = .ok (.iinc 1 1, 3) := by decide +kernel
theorem dX10_firstRow_53 : decode cX10_firstRow 53 = .ok (.goto (-46), 3) := by decide +kernel
theorem dX10_firstRow_56 : decode cX10_firstRow 56 = .ok (.return_, 1) := by decide +kernel
theorem dX10_turnFrom_0 : decode cX10_turnFrom 0 = .ok (.iload_n 2, 1) := by decide +kernel
theorem dX10_turnFrom_1 : decode cX10_turnFrom 1 = .ok (.istore 4, 2) := by decide +kernel
theorem dX10_turnFrom_3 : decode cX10_turnFrom 3 = .ok (.iload_n 3, 1) := by decide +kernel
theorem dX10_turnFrom_4 : decode cX10_turnFrom 4 = .ok (.istore 5, 2) := by decide +kernel
theorem dX10_turnFrom_6 : decode cX10_turnFrom 6 = .ok (.iload 4, 2) := by decide +kernel
theorem dX10_turnFrom_8 : decode cX10_turnFrom 8 = .ok (.iload 5, 2) := by decide +kernel
theorem dX10_turnFrom_10 : decode cX10_turnFrom 10 = .ok (.if_icmp .ge 32, 3) := by decide +kernel
theorem dX10_turnFrom_13 : decode cX10_turnFrom 13 = .ok (.aload_n 1, 1) := by decide +kernel
theorem dX10_turnFrom_14 : decode cX10_turnFrom 14 = .ok (.iload 4, 2) := by decide +kernel
theorem dX10_turnFrom_16 : decode cX10_turnFrom 16 = .ok (.iaload, 1) := by decide +kernel
theorem dX10_turnFrom_17 : decode cX10_turnFrom 17 = .ok (.istore 6, 2) := by decide +kernel
theorem dX10_turnFrom_19 : decode cX10_turnFrom 19 = .ok (.aload_n 1, 1) := by decide +kernel
theorem dX10_turnFrom_20 : decode cX10_turnFrom 20 = .ok (.iload 4, 2) := by decide +kernel
theorem dX10_turnFrom_22 : decode cX10_turnFrom 22 = .ok (.aload_n 1, 1) := by decide +kernel
theorem dX10_turnFrom_23 : decode cX10_turnFrom 23 = .ok (.iload 5, 2) := by decide +kernel
theorem dX10_turnFrom_25 : decode cX10_turnFrom 25 = .ok (.iaload, 1) := by decide +kernel
theorem dX10_turnFrom_26 : decode cX10_turnFrom 26 = .ok (.iastore, 1) := by decide +kernel
theorem dX10_turnFrom_27 : decode cX10_turnFrom 27 = .ok (.aload_n 1, 1) := by decide +kernel
theorem dX10_turnFrom_28 : decode cX10_turnFrom 28 = .ok (.iload 5, 2) := by decide +kernel
theorem dX10_turnFrom_30 : decode cX10_turnFrom 30 = .ok (.iload 6, 2) := by decide +kernel
theorem dX10_turnFrom_32 : decode cX10_turnFrom 32 = .ok (.iastore, 1) := by decide +kernel
theorem dX10_turnFrom_33 : decode cX10_turnFrom 33 = .ok (.iinc 4 1, 3) := by decide +kernel
theorem dX10_turnFrom_36 : decode cX10_turnFrom 36 = .ok (.iinc 5 (-1), 3) := by decide +kernel
theorem dX10_turnFrom_39 : decode cX10_turnFrom 39 = .ok (.goto (-33), 3) := by decide +kernel
theorem dX10_turnFrom_42 : decode cX10_turnFrom 42 = .ok (.return_, 1) := by decide +kernel
theorem dX10_nextRow_0 : decode cX10_nextRow 0 = .ok (.aload_n 0, 1) := by decide +kernel
theorem dX10_nextRow_1 : decode cX10_nextRow 1 = .ok (.getfield 158, 3) := by decide +kernel
theorem dX10_nextRow_4 : decode cX10_nextRow 4 = .ok (.iconst 2, 1) := by decide +kernel
theorem dX10_nextRow_5 : decode cX10_nextRow 5 = .ok (.isub, 1) := by decide +kernel
theorem dX10_nextRow_6 : decode cX10_nextRow 6 = .ok (.istore_n 1, 1) := by decide +kernel
theorem dX10_nextRow_7 : decode cX10_nextRow 7 = .ok (.iload_n 1, 1) := by decide +kernel
theorem dX10_nextRow_8 : decode cX10_nextRow 8 = .ok (.ifCond .lt 26, 3) := by decide +kernel
theorem dX10_nextRow_11 : decode cX10_nextRow 11 = .ok (.aload_n 0, 1) := by decide +kernel
theorem dX10_nextRow_12 : decode cX10_nextRow 12 = .ok (.getfield 48, 3) := by decide +kernel
theorem dX10_nextRow_15 : decode cX10_nextRow 15 = .ok (.iload_n 1, 1) := by decide +kernel
theorem dX10_nextRow_16 : decode cX10_nextRow 16 = .ok (.iaload, 1) := by decide +kernel
theorem dX10_nextRow_17 : decode cX10_nextRow 17 = .ok (.aload_n 0, 1) := by decide +kernel
theorem dX10_nextRow_18 : decode cX10_nextRow 18 = .ok (.getfield 48, 3) := by decide +kernel
theorem dX10_nextRow_21 : decode cX10_nextRow 21 = .ok (.iload_n 1, 1) := by decide +kernel
theorem dX10_nextRow_22 : decode cX10_nextRow 22 = .ok (.iconst 1, 1) := by decide +kernel
theorem dX10_nextRow_23 : decode cX10_nextRow 23 = .ok (.iadd, 1) := by decide +kernel
theorem dX10_nextRow_24 : decode cX10_nextRow 24 = .ok (.iaload, 1) := by decide +kernel
theorem dX10_nextRow_25 : decode cX10_nextRow 25 = .ok (.if_icmp .le 9, 3) := by decide +kernel
theorem dX10_nextRow_28 : decode cX10_nextRow 28 = .ok (.iinc 1 (-1), 3) := by decide +kernel
theorem dX10_nextRow_31 : decode cX10_nextRow 31 = .ok (.goto (-24), 3) := by decide +kernel
theorem dX10_nextRow_34 : decode cX10_nextRow 34 = .ok (.iload_n 1, 1) := by decide +kernel
theorem dX10_nextRow_35 : decode cX10_nextRow 35 = .ok (.ifCond .ge 5, 3) := by decide +kernel
theorem dX10_nextRow_38 : decode cX10_nextRow 38 = .ok (.iconst 0, 1) := by decide +kernel
theorem dX10_nextRow_39 : decode cX10_nextRow 39 = .ok (.ireturn, 1) := by decide +kernel
theorem dX10_nextRow_40 : decode cX10_nextRow 40 = .ok (.aload_n 0, 1) := by decide +kernel
theorem dX10_nextRow_41 : decode cX10_nextRow 41 = .ok (.getfield 158, 3) := by decide +kernel
theorem dX10_nextRow_44 : decode cX10_nextRow 44 = .ok (.iconst 1, 1) := by decide +kernel
theorem dX10_nextRow_45 : decode cX10_nextRow 45 = .ok (.isub, 1) := by decide +kernel
theorem dX10_nextRow_46 : decode cX10_nextRow 46 = .ok (.istore_n 2, 1) := by decide +kernel
theorem dX10_nextRow_47 : decode cX10_nextRow 47 = .ok (.aload_n 0, 1) := by decide +kernel
theorem dX10_nextRow_48 : decode cX10_nextRow 48 = .ok (.getfield 48, 3) := by decide +kernel
theorem dX10_nextRow_51 : decode cX10_nextRow 51 = .ok (.iload_n 2, 1) := by decide +kernel
theorem dX10_nextRow_52 : decode cX10_nextRow 52 = .ok (.iaload, 1) := by decide +kernel
theorem dX10_nextRow_53 : decode cX10_nextRow 53 = .ok (.aload_n 0, 1) := by decide +kernel
theorem dX10_nextRow_54 : decode cX10_nextRow 54 = .ok (.getfield 48, 3) := by decide +kernel
theorem dX10_nextRow_57 : decode cX10_nextRow 57 = .ok (.iload_n 1, 1) := by decide +kernel
theorem dX10_nextRow_58 : decode cX10_nextRow 58 = .ok (.iaload, 1) := by decide +kernel
theorem dX10_nextRow_59 : decode cX10_nextRow 59 = .ok (.if_icmp .ge 9, 3) := by decide +kernel
theorem dX10_nextRow_62 : decode cX10_nextRow 62 = .ok (.iinc 2 (-1), 3) := by decide +kernel
theorem dX10_nextRow_65 : decode cX10_nextRow 65 = .ok (.goto (-18), 3) := by decide +kernel
theorem dX10_nextRow_68 : decode cX10_nextRow 68 = .ok (.aload_n 0, 1) := by decide +kernel
theorem dX10_nextRow_69 : decode cX10_nextRow 69 = .ok (.getfield 48, 3) := by decide +kernel
theorem dX10_nextRow_72 : decode cX10_nextRow 72 = .ok (.iload_n 1, 1) := by decide +kernel
theorem dX10_nextRow_73 : decode cX10_nextRow 73 = .ok (.iaload, 1) := by decide +kernel
theorem dX10_nextRow_74 : decode cX10_nextRow 74 = .ok (.istore_n 3, 1) := by decide +kernel
theorem dX10_nextRow_75 : decode cX10_nextRow 75 = .ok (.aload_n 0, 1) := by decide +kernel
theorem dX10_nextRow_76 : decode cX10_nextRow 76 = .ok (.getfield 48, 3) := by decide +kernel
theorem dX10_nextRow_79 : decode cX10_nextRow 79 = .ok (.iload_n 1, 1) := by decide +kernel
theorem dX10_nextRow_80 : decode cX10_nextRow 80 = .ok (.aload_n 0, 1) := by decide +kernel
theorem dX10_nextRow_81 : decode cX10_nextRow 81 = .ok (.getfield 48, 3) := by decide +kernel
theorem dX10_nextRow_84 : decode cX10_nextRow 84 = .ok (.iload_n 2, 1) := by decide +kernel
theorem dX10_nextRow_85 : decode cX10_nextRow 85 = .ok (.iaload, 1) := by decide +kernel
theorem dX10_nextRow_86 : decode cX10_nextRow 86 = .ok (.iastore, 1) := by decide +kernel
theorem dX10_nextRow_87 : decode cX10_nextRow 87 = .ok (.aload_n 0, 1) := by decide +kernel
theorem dX10_nextRow_88 : decode cX10_nextRow 88 = .ok (.getfield 48, 3) := by decide +kernel
theorem dX10_nextRow_91 : decode cX10_nextRow 91 = .ok (.iload_n 2, 1) := by decide +kernel
theorem dX10_nextRow_92 : decode cX10_nextRow 92 = .ok (.iload_n 3, 1) := by decide +kernel
theorem dX10_nextRow_93 : decode cX10_nextRow 93 = .ok (.iastore, 1) := by decide +kernel
theorem dX10_nextRow_94 : decode cX10_nextRow 94 = .ok (.aload_n 0, 1) := by decide +kernel
theorem dX10_nextRow_95 : decode cX10_nextRow 95 = .ok (.aload_n 0, 1) := by decide +kernel
theorem dX10_nextRow_96 : decode cX10_nextRow 96 = .ok (.getfield 48, 3) := by decide +kernel
theorem dX10_nextRow_99 : decode cX10_nextRow 99 = .ok (.iload_n 1, 1) := by decide +kernel
theorem dX10_nextRow_100 : decode cX10_nextRow 100 = .ok (.iconst 1, 1) := by decide +kernel
theorem dX10_nextRow_101 : decode cX10_nextRow 101 = .ok (.iadd, 1) := by decide +kernel
theorem dX10_nextRow_102 : decode cX10_nextRow 102 = .ok (.aload_n 0, 1) := by decide +kernel
theorem dX10_nextRow_103 : decode cX10_nextRow 103 = .ok (.getfield 158, 3) := by decide +kernel
theorem dX10_nextRow_106 : decode cX10_nextRow 106 = .ok (.iconst 1, 1) := by decide +kernel
theorem dX10_nextRow_107 : decode cX10_nextRow 107 = .ok (.isub, 1) := by decide +kernel
theorem dX10_nextRow_108 : decode cX10_nextRow 108 = .ok (.invokevirtual 161, 3) := by decide +kernel
theorem dX10_nextRow_111 : decode cX10_nextRow 111 = .ok (.iconst 1, 1) := by decide +kernel
theorem dX10_nextRow_112 : decode cX10_nextRow 112 = .ok (.ireturn, 1) := by decide +kernel
theorem dX10_run_0 : decode cX10_run 0 = .ok (.aload_n 0, 1) := by decide +kernel
theorem dX10_run_1 : decode cX10_run 1 = .ok (.invokevirtual 165, 3) := by decide +kernel
theorem dX10_run_4 : decode cX10_run 4 = .ok (.aload_n 0, 1) := by decide +kernel
theorem dX10_run_5 : decode cX10_run 5 = .ok (.iconst 0, 1) := by decide +kernel
theorem dX10_run_6 : decode cX10_run 6 = .ok (.putfield 168, 3) := by decide +kernel
theorem dX10_run_9 : decode cX10_run 9 = .ok (.iconst 0, 1) := by decide +kernel
theorem dX10_run_10 : decode cX10_run 10 = .ok (.istore_n 1, 1) := by decide +kernel
theorem dX10_run_11 : decode cX10_run 11 = .ok (.iload_n 1, 1) := by decide +kernel
theorem dX10_run_12 : decode cX10_run 12 = .ok (.aload_n 0, 1) := by decide +kernel
theorem dX10_run_13 : decode cX10_run 13 = .ok (.getfield 158, 3) := by decide +kernel
theorem dX10_run_16 : decode cX10_run 16 = .ok (.if_icmp .ge 21, 3) := by decide +kernel
theorem dX10_run_19 : decode cX10_run 19 = .ok (.aload_n 0, 1) := by decide +kernel
theorem dX10_run_20 : decode cX10_run 20 = .ok (.getfield 51, 3) := by decide +kernel
theorem dX10_run_23 : decode cX10_run 23 = .ok (.iload_n 1, 1) := by decide +kernel
theorem dX10_run_24 : decode cX10_run 24 = .ok (.aload_n 0, 1) := by decide +kernel
theorem dX10_run_25 : decode cX10_run 25 = .ok (.getfield 48, 3) := by decide +kernel
theorem dX10_run_28 : decode cX10_run 28 = .ok (.iload_n 1, 1) := by decide +kernel
theorem dX10_run_29 : decode cX10_run 29 = .ok (.iaload, 1) := by decide +kernel
theorem dX10_run_30 : decode cX10_run 30 = .ok (.iastore, 1) := by decide +kernel
theorem dX10_run_31 : decode cX10_run 31 = .ok (.iinc 1 1, 3) := by decide +kernel
theorem dX10_run_34 : decode cX10_run 34 = .ok (.goto (-23), 3) := by decide +kernel
theorem dX10_run_37 : decode cX10_run 37 = .ok (.iconst 0, 1) := by decide +kernel
theorem dX10_run_38 : decode cX10_run 38 = .ok (.istore_n 1, 1) := by decide +kernel
theorem dX10_run_39 : decode cX10_run 39 = .ok (.iload_n 1, 1) := by decide +kernel
theorem dX10_run_40 : decode cX10_run 40 = .ok (.aload_n 0, 1) := by decide +kernel
theorem dX10_run_41 : decode cX10_run 41 = .ok (.getfield 158, 3) := by decide +kernel
theorem dX10_run_44 : decode cX10_run 44 = .ok (.if_icmp .ge 89, 3) := by decide +kernel
theorem dX10_run_47 : decode cX10_run 47 = .ok (.aload_n 0, 1) := by decide +kernel
theorem dX10_run_48 : decode cX10_run 48 = .ok (.aload_n 0, 1) := by decide +kernel
theorem dX10_run_49 : decode cX10_run 49 = .ok (.getfield 45, 3) := by decide +kernel
theorem dX10_run_52 : decode cX10_run 52 = .ok (.aload_n 0, 1) := by decide +kernel
theorem dX10_run_53 : decode cX10_run 53 = .ok (.getfield 51, 3) := by decide +kernel
theorem dX10_run_56 : decode cX10_run 56 = .ok (.iload_n 1, 1) := by decide +kernel
theorem dX10_run_57 : decode cX10_run 57 = .ok (.iaload, 1) := by decide +kernel
theorem dX10_run_58 : decode cX10_run 58 = .ok (.invokevirtual 146, 3) := by decide +kernel
theorem dX10_run_61 : decode cX10_run 61 = .ok (.ifCond .eq 20, 3) := by decide +kernel
theorem dX10_run_64 : decode cX10_run 64 = .ok (.aload_n 0, 1) := by decide +kernel
theorem dX10_run_65 : decode cX10_run 65 = .ok (.aload_n 0, 1) := by decide +kernel
theorem dX10_run_66 : decode cX10_run 66 = .ok (.getfield 51, 3) := by decide +kernel
theorem dX10_run_69 : decode cX10_run 69 = .ok (.iload_n 1, 1) := by decide +kernel
theorem dX10_run_70 : decode cX10_run 70 = .ok (.iconst 1, 1) := by decide +kernel
theorem dX10_run_71 : decode cX10_run 71 = .ok (.iadd, 1) := by decide +kernel
theorem dX10_run_72 : decode cX10_run 72 = .ok (.aload_n 0, 1) := by decide +kernel
theorem dX10_run_73 : decode cX10_run 73 = .ok (.getfield 158, 3) := by decide +kernel
theorem dX10_run_76 : decode cX10_run 76 = .ok (.iconst 1, 1) := by decide +kernel
theorem dX10_run_77 : decode cX10_run 77 = .ok (.isub, 1) := by decide +kernel
theorem dX10_run_78 : decode cX10_run 78 = .ok (.invokevirtual 161, 3) := by decide +kernel
theorem dX10_run_81 : decode cX10_run 81 = .ok (.aload_n 0, 1) := by decide +kernel
theorem dX10_run_82 : decode cX10_run 82 = .ok (.getfield 54, 3) := by decide +kernel
theorem dX10_run_85 : decode cX10_run 85 = .ok (.iload_n 1, 1) := by decide +kernel
theorem dX10_run_86 : decode cX10_run 86 = .ok (.aload_n 0, 1) := by decide +kernel
theorem dX10_run_87 : decode cX10_run 87 = .ok (.getfield 45, 3) := by decide +kernel
theorem dX10_run_90 : decode cX10_run 90 = .ok (.iconst 0, 1) := by decide +kernel
theorem dX10_run_91 : decode cX10_run 91 = .ok (.iaload, 1) := by decide +kernel
theorem dX10_run_92 : decode cX10_run 92 = .ok (.iastore, 1) := by decide +kernel
theorem dX10_run_93 : decode cX10_run 93 = .ok (.aload_n 0, 1) := by decide +kernel
theorem dX10_run_94 : decode cX10_run 94 = .ok (.dup, 1) := by decide +kernel
theorem dX10_run_95 : decode cX10_run 95 = .ok (.getfield 168, 3) := by decide +kernel
theorem dX10_run_98 : decode cX10_run 98 = .ok (.aload_n 0, 1) := by decide +kernel
theorem dX10_run_99 : decode cX10_run 99 = .ok (.getfield 54, 3) := by decide +kernel
theorem dX10_run_102 : decode cX10_run 102 = .ok (.iload_n 1, 1) := by decide +kernel
theorem dX10_run_103 : decode cX10_run 103 = .ok (.iaload, 1) := by decide +kernel
theorem dX10_run_104 : decode cX10_run 104 = .ok (.aload_n 0, 1) := by decide +kernel
theorem dX10_run_105 : decode cX10_run 105 = .ok (.getfield 29, 3) := by decide +kernel
theorem dX10_run_108 : decode cX10_run 108 = .ok (.aload_n 0, 1) := by decide +kernel
theorem dX10_run_109 : decode cX10_run 109 = .ok (.getfield 51, 3) := by decide +kernel
theorem dX10_run_112 : decode cX10_run 112 = .ok (.iload_n 1, 1) := by decide +kernel
theorem dX10_run_113 : decode cX10_run 113 = .ok (.iaload, 1) := by decide +kernel
theorem dX10_run_114 : decode cX10_run 114 = .ok (.iaload, 1) := by decide +kernel
theorem dX10_run_115 : decode cX10_run 115 = .ok (.if_icmp .ne 7, 3) := by decide +kernel
theorem dX10_run_118 : decode cX10_run 118 = .ok (.iconst 1, 1) := by decide +kernel
theorem dX10_run_119 : decode cX10_run 119 = .ok (.goto 4, 3) := by decide +kernel
theorem dX10_run_122 : decode cX10_run 122 = .ok (.iconst 0, 1) := by decide +kernel
theorem dX10_run_123 : decode cX10_run 123 = .ok (.iadd, 1) := by decide +kernel
theorem dX10_run_124 : decode cX10_run 124 = .ok (.putfield 168, 3) := by decide +kernel
theorem dX10_run_127 : decode cX10_run 127 = .ok (.iinc 1 1, 3) := by decide +kernel
theorem dX10_run_130 : decode cX10_run 130 = .ok (.goto (-91), 3) := by decide +kernel
theorem dX10_run_133 : decode cX10_run 133 = .ok (.return_, 1) := by decide +kernel
theorem dX10_isAtDoor_0 : decode cX10_isAtDoor 0 = .ok (.aload_n 0, 1) := by decide +kernel
theorem dX10_isAtDoor_1 : decode cX10_isAtDoor 1 = .ok (.getfield 13, 3) := by decide +kernel
theorem dX10_isAtDoor_4 : decode cX10_isAtDoor 4 = .ok (.iconst 0, 1) := by decide +kernel
theorem dX10_isAtDoor_5 : decode cX10_isAtDoor 5 = .ok (.iaload, 1) := by decide +kernel
theorem dX10_isAtDoor_6 : decode cX10_isAtDoor 6 = .ok (.ifCond .le 16, 3) := by decide +kernel
theorem dX10_isAtDoor_9 : decode cX10_isAtDoor 9 = .ok (.aload_n 0, 1) := by decide +kernel
theorem dX10_isAtDoor_10 : decode cX10_isAtDoor 10 = .ok (.getfield 45, 3) := by decide +kernel
theorem dX10_isAtDoor_13 : decode cX10_isAtDoor 13 = .ok (.iconst 0, 1) := by decide +kernel
theorem dX10_isAtDoor_14 : decode cX10_isAtDoor 14 = .ok (.iaload, 1) := by decide +kernel
theorem dX10_isAtDoor_15 : decode cX10_isAtDoor 15 = .ok (.ifCond .ne 7, 3) := by decide +kernel
theorem dX10_isAtDoor_18 : decode cX10_isAtDoor 18 = .ok (.iconst 1, 1) := by decide +kernel
theorem dX10_isAtDoor_19 : decode cX10_isAtDoor 19 = .ok (.goto 4, 3) := by decide +kernel
theorem dX10_isAtDoor_22 : decode cX10_isAtDoor 22 = .ok (.iconst 0, 1) := by decide +kernel
theorem dX10_isAtDoor_23 : decode cX10_isAtDoor 23 = .ok (.ireturn, 1) := by decide +kernel
theorem dX10_findOrder_0 : decode cX10_findOrder 0 = .ok (.aload_n 0, 1) := by decide +kernel
theorem dX10_findOrder_1 : decode cX10_findOrder 1 = .ok (.invokevirtual 171, 3) := by decide +kernel
theorem dX10_findOrder_4 : decode cX10_findOrder 4 = .ok (.iconst 1, 1) := by decide +kernel
theorem dX10_findOrder_5 : decode cX10_findOrder 5 = .ok (.istore_n 1, 1) := by decide +kernel
theorem dX10_findOrder_6 : decode cX10_findOrder 6 = .ok (.aload_n 0, 1) := by decide +kernel
theorem dX10_findOrder_7 : decode cX10_findOrder 7 = .ok (.bipush (-9), 2) := by decide +kernel
theorem dX10_findOrder_9 : decode cX10_findOrder 9 = .ok (.putfield 174, 3) := by decide +kernel
theorem dX10_findOrder_12 : decode cX10_findOrder 12 = .ok (.iload_n 1, 1) := by decide +kernel
theorem dX10_findOrder_13 : decode cX10_findOrder 13 = .ok (.ifCond .eq 111, 3) := by decide +kernel
theorem dX10_findOrder_16 : decode cX10_findOrder 16 = .ok (.aload_n 0, 1) := by decide +kernel
theorem dX10_findOrder_17 : decode cX10_findOrder 17 = .ok (.invokevirtual 177, 3) := by decide +kernel
theorem dX10_findOrder_20 : decode cX10_findOrder 20 = .ok (.aload_n 0, 1) := by decide +kernel
theorem dX10_findOrder_21 : decode cX10_findOrder 21 = .ok (.invokevirtual 180, 3) := by decide +kernel
theorem dX10_findOrder_24 : decode cX10_findOrder 24 = .ok (.ifCond .eq 7, 3) := by decide +kernel
theorem dX10_findOrder_27 : decode cX10_findOrder 27 = .ok (.iconst 0, 1) := by decide +kernel
theorem dX10_findOrder_28 : decode cX10_findOrder 28 = .ok (.goto 5, 3) := by decide +kernel
theorem dX10_findOrder_31 : decode cX10_findOrder 31 = .ok (.ldc 184, 2) := by decide +kernel
theorem dX10_findOrder_33 : decode cX10_findOrder 33 = .ok (.sipush 10000, 3) := by decide +kernel
theorem dX10_findOrder_36 : decode cX10_findOrder 36 = .ok (.aload_n 0, 1) := by decide +kernel
theorem dX10_findOrder_37 : decode cX10_findOrder 37 = .ok (.getfield 45, 3) := by decide +kernel
theorem dX10_findOrder_40 : decode cX10_findOrder 40 = .ok (.iconst 2, 1) := by decide +kernel
theorem dX10_findOrder_41 : decode cX10_findOrder 41 = .ok (.iaload, 1) := by decide +kernel
theorem dX10_findOrder_42 : decode cX10_findOrder 42 = .ok (.aload_n 0, 1) := by decide +kernel
theorem dX10_findOrder_43 : decode cX10_findOrder 43 = .ok (.getfield 38, 3) := by decide +kernel
theorem dX10_findOrder_46 : decode cX10_findOrder 46 = .ok (.iconst 2, 1) := by decide +kernel
theorem dX10_findOrder_47 : decode cX10_findOrder 47 = .ok (.iaload, 1) := by decide +kernel
theorem dX10_findOrder_48 : decode cX10_findOrder 48 = .ok (.isub, 1) := by decide +kernel
theorem dX10_findOrder_49 : decode cX10_findOrder 49 = .ok (.imul, 1) := by decide +kernel
theorem dX10_findOrder_50 : decode cX10_findOrder 50 = .ok (.iadd, 1) := by decide +kernel
theorem dX10_findOrder_51 : decode cX10_findOrder 51 = .ok (.aload_n 0, 1) := by decide +kernel
theorem dX10_findOrder_52 : decode cX10_findOrder 52 = .ok (.getfield 45, 3) := by decide +kernel
theorem dX10_findOrder_55 : decode cX10_findOrder 55 = .ok (.iconst 1, 1) := by decide +kernel
theorem dX10_findOrder_56 : decode cX10_findOrder 56 = .ok (.iaload, 1) := by decide +kernel
theorem dX10_findOrder_57 : decode cX10_findOrder 57 = .ok (.iadd, 1) := by decide +kernel
theorem dX10_findOrder_58 : decode cX10_findOrder 58 = .ok (.aload_n 0, 1) := by decide +kernel
theorem dX10_findOrder_59 : decode cX10_findOrder 59 = .ok (.getfield 38, 3) := by decide +kernel
theorem dX10_findOrder_62 : decode cX10_findOrder 62 = .ok (.iconst 1, 1) := by decide +kernel
theorem dX10_findOrder_63 : decode cX10_findOrder 63 = .ok (.iaload, 1) := by decide +kernel
theorem dX10_findOrder_64 : decode cX10_findOrder 64 = .ok (.isub, 1) := by decide +kernel
theorem dX10_findOrder_65 : decode cX10_findOrder 65 = .ok (.istore_n 2, 1) := by decide +kernel
theorem dX10_findOrder_66 : decode cX10_findOrder 66 = .ok (.aload_n 0, 1) := by decide +kernel
theorem dX10_findOrder_67 : decode cX10_findOrder 67 = .ok (.getfield 174, 3) := by decide +kernel
theorem dX10_findOrder_70 : decode cX10_findOrder 70 = .ok (.bipush (-9), 2) := by decide +kernel
theorem dX10_findOrder_72 : decode cX10_findOrder 72 = .ok (.if_icmp .eq 11, 3) := by decide +kernel
theorem dX10_findOrder_75 : decode cX10_findOrder 75 = .ok (.iload_n 2, 1) := by decide +kernel
theorem dX10_findOrder_76 : decode cX10_findOrder 76 = .ok (.aload_n 0, 1) := by decide +kernel
theorem dX10_findOrder_77 : decode cX10_findOrder 77 = .ok (.getfield 174, 3) := by decide +kernel
theorem dX10_findOrder_80 : decode cX10_findOrder 80 = .ok (.if_icmp .ge 36, 3) := by decide +kernel
theorem dX10_findOrder_83 : decode cX10_findOrder 83 = .ok (.aload_n 0, 1) := by decide +kernel
theorem dX10_findOrder_84 : decode cX10_findOrder 84 = .ok (.iload_n 2, 1) := by decide +kernel
theorem dX10_findOrder_85 : decode cX10_findOrder 85 = .ok (.putfield 174, 3) := by decide +kernel
theorem dX10_findOrder_88 : decode cX10_findOrder 88 = .ok (.iconst 0, 1) := by decide +kernel
theorem dX10_findOrder_89 : decode cX10_findOrder 89 = .ok (.istore_n 3, 1) := by decide +kernel
theorem dX10_findOrder_90 : decode cX10_findOrder 90 = .ok (.iload_n 3, 1) := by decide +kernel
theorem dX10_findOrder_91 : decode cX10_findOrder 91 = .ok (.aload_n 0, 1) := by decide +kernel
theorem dX10_findOrder_92 : decode cX10_findOrder 92 = .ok (.getfield 158, 3) := by decide +kernel
theorem dX10_findOrder_95 : decode cX10_findOrder 95 = .ok (.if_icmp .ge 21, 3) := by decide +kernel
theorem dX10_findOrder_98 : decode cX10_findOrder 98 = .ok (.aload_n 0, 1) := by decide +kernel
theorem dX10_findOrder_99 : decode cX10_findOrder 99 = .ok (.getfield 57, 3) := by decide +kernel
theorem dX10_findOrder_102 : decode cX10_findOrder 102 = .ok (.iload_n 3, 1) := by decide +kernel
theorem dX10_findOrder_103 : decode cX10_findOrder 103 = .ok (.aload_n 0, 1) := by decide +kernel
theorem dX10_findOrder_104 : decode cX10_findOrder 104 = .ok (.getfield 48, 3) := by decide +kernel
theorem dX10_findOrder_107 : decode cX10_findOrder 107 = .ok (.iload_n 3, 1) := by decide +kernel
theorem dX10_findOrder_108 : decode cX10_findOrder 108 = .ok (.iaload, 1) := by decide +kernel
theorem dX10_findOrder_109 : decode cX10_findOrder 109 = .ok (.iastore, 1) := by decide +kernel
theorem dX10_findOrder_110 : decode cX10_findOrder 110 = .ok (.iinc 3 1, 3) := by decide +kernel
theorem dX10_findOrder_113 : decode cX10_findOrder 113 = .ok (.goto (-23), 3) := by decide +kernel
theorem dX10_findOrder_116 : decode cX10_findOrder 116 = .ok (.aload_n 0, 1) := by decide +kernel
theorem dX10_findOrder_117 : decode cX10_findOrder 117 = .ok (.invokevirtual 185, 3) := by decide +kernel
theorem dX10_findOrder_120 : decode cX10_findOrder 120 = .ok (.istore_n 1, 1) := by decide +kernel
theorem dX10_findOrder_121 : decode cX10_findOrder 121 = .ok (.goto (-109), 3) := by decide +kernel
theorem dX10_findOrder_124 : decode cX10_findOrder 124 = .ok (.return_, 1) := by decide +kernel
theorem dX10_order_0 : decode cX10_order 0 = .ok (.iload_n 1, 1) := by decide +kernel
theorem dX10_order_1 : decode cX10_order 1 = .ok (.bipush (-3), 2) := by decide +kernel
theorem dX10_order_3 : decode cX10_order 3 = .ok (.iconst 5, 1) := by decide +kernel
theorem dX10_order_4 : decode cX10_order 4 = .ok (.invokestatic 75, 3) := by decide +kernel
theorem dX10_order_7 : decode cX10_order 7 = .ok (.ifCond .ne 5, 3) := by decide +kernel
theorem dX10_order_10 : decode cX10_order 10 = .ok (.iconst (-1), 1) := by decide +kernel
theorem dX10_order_11 : decode cX10_order 11 = .ok (.ireturn, 1) := by decide +kernel
theorem dX10_order_12 : decode cX10_order 12 = .ok (.aload_n 0, 1) := by decide +kernel
theorem dX10_order_13 : decode cX10_order 13 = .ok (.invokevirtual 188, 3) := by decide +kernel
theorem dX10_order_16 : decode cX10_order 16 = .ok (.iload_n 1, 1) := by decide +kernel
theorem dX10_order_17 : decode cX10_order 17 = .ok (.tableswitch 63 (-3) (-1) #[54, 42, 27], 27) := by decide +kernel
theorem dX10_order_44 : decode cX10_order 44 = .ok (.aload_n 0, 1) := by decide +kernel
theorem dX10_order_45 : decode cX10_order 45 = .ok (.getfield 174, 3) := by decide +kernel
theorem dX10_order_48 : decode cX10_order 48 = .ok (.ldc 184, 2) := by decide +kernel
theorem dX10_order_50 : decode cX10_order 50 = .ok (.if_icmp .ge 7, 3) := by decide +kernel
theorem dX10_order_53 : decode cX10_order 53 = .ok (.iconst 1, 1) := by decide +kernel
theorem dX10_order_54 : decode cX10_order 54 = .ok (.goto 4, 3) := by decide +kernel
theorem dX10_order_57 : decode cX10_order 57 = .ok (.iconst 0, 1) := by decide +kernel
theorem dX10_order_58 : decode cX10_order 58 = .ok (.ireturn, 1) := by decide +kernel
theorem dX10_order_59 : decode cX10_order 59 = .ok (.aload_n 0, 1) := by decide +kernel
theorem dX10_order_60 : decode cX10_order 60 = .ok (.getfield 174, 3) := by decide +kernel
theorem dX10_order_63 : decode cX10_order 63 = .ok (.ldc 184, 2) := by decide +kernel
theorem dX10_order_65 : decode cX10_order 65 = .ok (.irem, 1) := by decide +kernel
theorem dX10_order_66 : decode cX10_order 66 = .ok (.sipush 10000, 3) := by decide +kernel
theorem dX10_order_69 : decode cX10_order 69 = .ok (.idiv, 1) := by decide +kernel
theorem dX10_order_70 : decode cX10_order 70 = .ok (.ireturn, 1) := by decide +kernel
theorem dX10_order_71 : decode cX10_order 71 = .ok (.aload_n 0, 1) := by decide +kernel
theorem dX10_order_72 : decode cX10_order 72 = .ok (.getfield 174, 3) := by decide +kernel
theorem dX10_order_75 : decode cX10_order 75 = .ok (.sipush 10000, 3) := by decide +kernel
theorem dX10_order_78 : decode cX10_order 78 = .ok (.irem, 1) := by decide +kernel
theorem dX10_order_79 : decode cX10_order 79 = .ok (.ireturn, 1) := by decide +kernel
theorem dX10_order_80 : decode cX10_order 80 = .ok (.iload_n 1, 1) := by decide +kernel
theorem dX10_order_81 : decode cX10_order 81 = .ok (.aload_n 0, 1) := by decide +kernel
theorem dX10_order_82 : decode cX10_order 82 = .ok (.getfield 158, 3) := by decide +kernel
theorem dX10_order_85 : decode cX10_order 85 = .ok (.if_icmp .ge 12, 3) := by decide +kernel
theorem dX10_order_88 : decode cX10_order 88 = .ok (.aload_n 0, 1) := by decide +kernel
theorem dX10_order_89 : decode cX10_order 89 = .ok (.getfield 57, 3) := by decide +kernel
theorem dX10_order_92 : decode cX10_order 92 = .ok (.iload_n 1, 1) := by decide +kernel
theorem dX10_order_93 : decode cX10_order 93 = .ok (.iaload, 1) := by decide +kernel
theorem dX10_order_94 : decode cX10_order 94 = .ok (.goto 5, 3) := by decide +kernel
theorem dX10_order_97 : decode cX10_order 97 = .ok (.bipush (-9), 2) := by decide +kernel
theorem dX10_order_99 : decode cX10_order 99 = .ok (.ireturn, 1) := by decide +kernel
theorem dX10_most_0 : decode cX10_most 0 = .ok (.iload_n 1, 1) := by decide +kernel
theorem dX10_most_1 : decode cX10_most 1 = .ok (.iconst (-1), 1) := by decide +kernel
theorem dX10_most_2 : decode cX10_most 2 = .ok (.iconst 5, 1) := by decide +kernel
theorem dX10_most_3 : decode cX10_most 3 = .ok (.invokestatic 75, 3) := by decide +kernel
theorem dX10_most_6 : decode cX10_most 6 = .ok (.ifCond .ne 5, 3) := by decide +kernel
theorem dX10_most_9 : decode cX10_most 9 = .ok (.iconst (-1), 1) := by decide +kernel
theorem dX10_most_10 : decode cX10_most 10 = .ok (.ireturn, 1) := by decide +kernel
theorem dX10_most_11 : decode cX10_most 11 = .ok (.aload_n 0, 1) := by decide +kernel
theorem dX10_most_12 : decode cX10_most 12 = .ok (.invokevirtual 171, 3) := by decide +kernel
theorem dX10_most_15 : decode cX10_most 15 = .ok (.iconst 1, 1) := by decide +kernel
theorem dX10_most_16 : decode cX10_most 16 = .ok (.istore_n 2, 1) := by decide +kernel
theorem dX10_most_17 : decode cX10_most 17 = .ok (.bipush (-9), 2) := by decide +kernel
theorem dX10_most_19 : decode cX10_most 19 = .ok (.istore_n 3, 1) := by decide +kernel
theorem dX10_most_20 : decode cX10_most 20 = .ok (.iload_n 2, 1) := by decide +kernel
theorem dX10_most_21 : decode cX10_most 21 = .ok (.ifCond .eq 69, 3) := by decide +kernel
theorem dX10_most_24 : decode cX10_most 24 = .ok (.aload_n 0, 1) := by decide +kernel
theorem dX10_most_25 : decode cX10_most 25 = .ok (.invokevirtual 177, 3) := by decide +kernel
theorem dX10_most_28 : decode cX10_most 28 = .ok (.aload_n 0, 1) := by decide +kernel
theorem dX10_most_29 : decode cX10_most 29 = .ok (.aload_n 0, 1) := by decide +kernel
theorem dX10_most_30 : decode cX10_most 30 = .ok (.getfield 45, 3) := by decide +kernel
theorem dX10_most_33 : decode cX10_most 33 = .ok (.invokevirtual 154, 3) := by decide +kernel
theorem dX10_most_36 : decode cX10_most 36 = .ok (.invokestatic 150, 3) := by decide +kernel
theorem dX10_most_39 : decode cX10_most 39 = .ok (.istore 4, 2) := by decide +kernel
theorem dX10_most_41 : decode cX10_most 41 = .ok (.iload 4, 2) := by decide +kernel
theorem dX10_most_43 : decode cX10_most 43 = .ok (.iload_n 3, 1) := by decide +kernel
theorem dX10_most_44 : decode cX10_most 44 = .ok (.if_icmp .le 38, 3) := by decide +kernel
theorem dX10_most_47 : decode cX10_most 47 = .ok (.iload 4, 2) := by decide +kernel
theorem dX10_most_49 : decode cX10_most 49 = .ok (.istore_n 3, 1) := by decide +kernel
theorem dX10_most_50 : decode cX10_most 50 = .ok (.iconst 0, 1) := by decide +kernel
theorem dX10_most_51 : decode cX10_most 51 = .ok (.istore 5, 2) := by decide +kernel
theorem dX10_most_53 : decode cX10_most 53 = .ok (.iload 5, 2) := by decide +kernel
theorem dX10_most_55 : decode cX10_most 55 = .ok (.aload_n 0, 1) := by decide +kernel
theorem dX10_most_56 : decode cX10_most 56 = .ok (.getfield 158, 3) := by decide +kernel
theorem dX10_most_59 : decode cX10_most 59 = .ok (.if_icmp .ge 23, 3) := by decide +kernel
theorem dX10_most_62 : decode cX10_most 62 = .ok (.aload_n 0, 1) := by decide +kernel
theorem dX10_most_63 : decode cX10_most 63 = .ok (.getfield 57, 3) := by decide +kernel
theorem dX10_most_66 : decode cX10_most 66 = .ok (.iload 5, 2) := by decide +kernel
theorem dX10_most_68 : decode cX10_most 68 = .ok (.aload_n 0, 1) := by decide +kernel
theorem dX10_most_69 : decode cX10_most 69 = .ok (.getfield 48, 3) := by decide +kernel
theorem dX10_most_72 : decode cX10_most 72 = .ok (.iload 5, 2) := by decide +kernel
theorem dX10_most_74 : decode cX10_most 74 = .ok (.iaload, 1) := by decide +kernel
theorem dX10_most_75 : decode cX10_most 75 = .ok (.iastore, 1) := by decide +kernel
theorem dX10_most_76 : decode cX10_most 76 = .ok (.iinc 5 1, 3) := by decide +kernel
theorem dX10_most_79 : decode cX10_most 79 = .ok (.goto (-26), 3) := by decide +kernel
theorem dX10_most_82 : decode cX10_most 82 = .ok (.aload_n 0, 1) := by decide +kernel
theorem dX10_most_83 : decode cX10_most 83 = .ok (.invokevirtual 185, 3) := by decide +kernel
theorem dX10_most_86 : decode cX10_most 86 = .ok (.istore_n 2, 1) := by decide +kernel
theorem dX10_most_87 : decode cX10_most 87 = .ok (.goto (-67), 3) := by decide +kernel
theorem dX10_most_90 : decode cX10_most 90 = .ok (.iload_n 1, 1) := by decide +kernel
theorem dX10_most_91 : decode cX10_most 91 = .ok (.iconst (-1), 1) := by decide +kernel
theorem dX10_most_92 : decode cX10_most 92 = .ok (.if_icmp .ne 7, 3) := by decide +kernel
theorem dX10_most_95 : decode cX10_most 95 = .ok (.iload_n 3, 1) := by decide +kernel
theorem dX10_most_96 : decode cX10_most 96 = .ok (.goto 22, 3) := by decide +kernel
theorem dX10_most_99 : decode cX10_most 99 = .ok (.iload_n 1, 1) := by decide +kernel
theorem dX10_most_100 : decode cX10_most 100 = .ok (.aload_n 0, 1) := by decide +kernel
theorem dX10_most_101 : decode cX10_most 101 = .ok (.getfield 158, 3) := by decide +kernel
theorem dX10_most_104 : decode cX10_most 104 = .ok (.if_icmp .ge 12, 3) := by decide +kernel
theorem dX10_most_107 : decode cX10_most 107 = .ok (.aload_n 0, 1) := by decide +kernel
theorem dX10_most_108 : decode cX10_most 108 = .ok (.getfield 57, 3) := by decide +kernel
theorem dX10_most_111 : decode cX10_most 111 = .ok (.iload_n 1, 1) := by decide +kernel
theorem dX10_most_112 : decode cX10_most 112 = .ok (.iaload, 1) := by decide +kernel
theorem dX10_most_113 : decode cX10_most 113 = .ok (.goto 5, 3) := by decide +kernel
theorem dX10_most_116 : decode cX10_most 116 = .ok (.bipush (-9), 2) := by decide +kernel
theorem dX10_most_118 : decode cX10_most 118 = .ok (.ireturn, 1) := by decide +kernel
theorem dX10_rows_0 : decode cX10_rows 0 = .ok (.iload_n 1, 1) := by decide +kernel
theorem dX10_rows_1 : decode cX10_rows 1 = .ok (.iconst 0, 1) := by decide +kernel
theorem dX10_rows_2 : decode cX10_rows 2 = .ok (.iconst 5, 1) := by decide +kernel
theorem dX10_rows_3 : decode cX10_rows 3 = .ok (.invokestatic 75, 3) := by decide +kernel
theorem dX10_rows_6 : decode cX10_rows 6 = .ok (.ifCond .ne 5, 3) := by decide +kernel
theorem dX10_rows_9 : decode cX10_rows 9 = .ok (.iconst (-1), 1) := by decide +kernel
theorem dX10_rows_10 : decode cX10_rows 10 = .ok (.ireturn, 1) := by decide +kernel
theorem dX10_rows_11 : decode cX10_rows 11 = .ok (.iconst 1, 1) := by decide +kernel
theorem dX10_rows_12 : decode cX10_rows 12 = .ok (.aload_n 0, 1) := by decide +kernel
theorem dX10_rows_13 : decode cX10_rows 13 = .ok (.getfield 17, 3) := by decide +kernel
theorem dX10_rows_16 : decode cX10_rows 16 = .ok (.iconst 0, 1) := by decide +kernel
theorem dX10_rows_17 : decode cX10_rows 17 = .ok (.iaload, 1) := by decide +kernel
theorem dX10_rows_18 : decode cX10_rows 18 = .ok (.ishl, 1) := by decide +kernel
theorem dX10_rows_19 : decode cX10_rows 19 = .ok (.iconst 1, 1) := by decide +kernel
theorem dX10_rows_20 : decode cX10_rows 20 = .ok (.isub, 1) := by decide +kernel
theorem dX10_rows_21 : decode cX10_rows 21 = .ok (.istore_n 2, 1) := by decide +kernel
theorem dX10_rows_22 : decode cX10_rows 22 = .ok (.iconst 0, 1) := by decide +kernel
theorem dX10_rows_23 : decode cX10_rows 23 = .ok (.istore_n 3, 1) := by decide +kernel
theorem dX10_rows_24 : decode cX10_rows 24 = .ok (.iconst 0, 1) := by decide +kernel
theorem dX10_rows_25 : decode cX10_rows 25 = .ok (.istore 4, 2) := by decide +kernel
theorem dX10_rows_27 : decode cX10_rows 27 = .ok (.bipush (-9), 2) := by decide +kernel
theorem dX10_rows_29 : decode cX10_rows 29 = .ok (.istore 5, 2) := by decide +kernel
theorem dX10_rows_31 : decode cX10_rows 31 = .ok (.iconst 0, 1) := by decide +kernel
theorem dX10_rows_32 : decode cX10_rows 32 = .ok (.istore 6, 2) := by decide +kernel
theorem dX10_rows_34 : decode cX10_rows 34 = .ok (.iconst 0, 1) := by decide +kernel
theorem dX10_rows_35 : decode cX10_rows 35 = .ok (.istore 7, 2) := by decide +kernel
theorem dX10_rows_37 : decode cX10_rows 37 = .ok (.aload_n 0, 1) := by decide +kernel
theorem dX10_rows_38 : decode cX10_rows 38 = .ok (.invokevirtual 171, 3) := by decide +kernel
theorem dX10_rows_41 : decode cX10_rows 41 = .ok (.iconst 1, 1) := by decide +kernel
theorem dX10_rows_42 : decode cX10_rows 42 = .ok (.istore 8, 2) := by decide +kernel
theorem dX10_rows_44 : decode cX10_rows 44 = .ok (.iload 8, 2) := by decide +kernel
theorem dX10_rows_46 : decode cX10_rows 46 = .ok (.ifCond .eq 163, 3) := by decide +kernel
theorem dX10_rows_49 : decode cX10_rows 49 = .ok (.aload_n 0, 1) := by decide +kernel
theorem dX10_rows_50 : decode cX10_rows 50 = .ok (.invokevirtual 177, 3) := by decide +kernel
theorem dX10_rows_53 : decode cX10_rows 53 = .ok (.aload_n 0, 1) := by decide +kernel
theorem dX10_rows_54 : decode cX10_rows 54 = .ok (.getfield 45, 3) := by decide +kernel
theorem dX10_rows_57 : decode cX10_rows 57 = .ok (.iconst 1, 1) := by decide +kernel
theorem dX10_rows_58 : decode cX10_rows 58 = .ok (.iaload, 1) := by decide +kernel
theorem dX10_rows_59 : decode cX10_rows 59 = .ok (.aload_n 0, 1) := by decide +kernel
theorem dX10_rows_60 : decode cX10_rows 60 = .ok (.getfield 38, 3) := by decide +kernel
theorem dX10_rows_63 : decode cX10_rows 63 = .ok (.iconst 1, 1) := by decide +kernel
theorem dX10_rows_64 : decode cX10_rows 64 = .ok (.iaload, 1) := by decide +kernel
theorem dX10_rows_65 : decode cX10_rows 65 = .ok (.isub, 1) := by decide +kernel
theorem dX10_rows_66 : decode cX10_rows 66 = .ok (.istore 9, 2) := by decide +kernel
theorem dX10_rows_68 : decode cX10_rows 68 = .ok (.iload_n 2, 1) := by decide +kernel
theorem dX10_rows_69 : decode cX10_rows 69 = .ok (.aload_n 0, 1) := by decide +kernel
theorem dX10_rows_70 : decode cX10_rows 70 = .ok (.aload_n 0, 1) := by decide +kernel
theorem dX10_rows_71 : decode cX10_rows 71 = .ok (.getfield 45, 3) := by decide +kernel
theorem dX10_rows_74 : decode cX10_rows 74 = .ok (.invokevirtual 154, 3) := by decide +kernel
theorem dX10_rows_77 : decode cX10_rows 77 = .ok (.iconst (-1), 1) := by decide +kernel
theorem dX10_rows_78 : decode cX10_rows 78 = .ok (.ixor, 1) := by decide +kernel
theorem dX10_rows_79 : decode cX10_rows 79 = .ok (.iand, 1) := by decide +kernel
theorem dX10_rows_80 : decode cX10_rows 80 = .ok (.istore_n 2, 1) := by decide +kernel
theorem dX10_rows_81 : decode cX10_rows 81 = .ok (.iload_n 3, 1) := by decide +kernel
theorem dX10_rows_82 : decode cX10_rows 82 = .ok (.aload_n 0, 1) := by decide +kernel
theorem dX10_rows_83 : decode cX10_rows 83 = .ok (.getfield 13, 3) := by decide +kernel
theorem dX10_rows_86 : decode cX10_rows 86 = .ok (.iconst 0, 1) := by decide +kernel
theorem dX10_rows_87 : decode cX10_rows 87 = .ok (.iaload, 1) := by decide +kernel
theorem dX10_rows_88 : decode cX10_rows 88 = .ok (.ifCond .ne 7, 3) := by decide +kernel
theorem dX10_rows_91 : decode cX10_rows 91 = .ok (.iconst 0, 1) := by decide +kernel
theorem dX10_rows_92 : decode cX10_rows 92 = .ok (.goto 11, 3) := by decide +kernel
theorem dX10_rows_95 : decode cX10_rows 95 = .ok (.iconst 1, 1) := by decide +kernel
theorem dX10_rows_96 : decode cX10_rows 96 = .ok (.aload_n 0, 1) := by decide +kernel
theorem dX10_rows_97 : decode cX10_rows 97 = .ok (.getfield 45, 3) := by decide +kernel
theorem dX10_rows_100 : decode cX10_rows 100 = .ok (.iconst 0, 1) := by decide +kernel
theorem dX10_rows_101 : decode cX10_rows 101 = .ok (.iaload, 1) := by decide +kernel
theorem dX10_rows_102 : decode cX10_rows 102 = .ok (.ishl, 1) := by decide +kernel
theorem dX10_rows_103 : decode cX10_rows 103 = .ok (.ior, 1) := by decide +kernel
theorem dX10_rows_104 : decode cX10_rows 104 = .ok (.istore_n 3, 1) := by decide +kernel
theorem dX10_rows_105 : decode cX10_rows 105 = .ok (.aload_n 0, 1) := by decide +kernel
theorem dX10_rows_106 : decode cX10_rows 106 = .ok (.getfield 168, 3) := by decide +kernel
theorem dX10_rows_109 : decode cX10_rows 109 = .ok (.iload 4, 2) := by decide +kernel
theorem dX10_rows_111 : decode cX10_rows 111 = .ok (.if_icmp .le 10, 3) := by decide +kernel
theorem dX10_rows_114 : decode cX10_rows 114 = .ok (.aload_n 0, 1) := by decide +kernel
theorem dX10_rows_115 : decode cX10_rows 115 = .ok (.getfield 168, 3) := by decide +kernel
theorem dX10_rows_118 : decode cX10_rows 118 = .ok (.goto 5, 3) := by decide +kernel
theorem dX10_rows_121 : decode cX10_rows 121 = .ok (.iload 4, 2) := by decide +kernel
theorem dX10_rows_123 : decode cX10_rows 123 = .ok (.istore 4, 2) := by decide +kernel
theorem dX10_rows_125 : decode cX10_rows 125 = .ok (.iload 5, 2) := by decide +kernel
theorem dX10_rows_127 : decode cX10_rows 127 = .ok (.bipush (-9), 2) := by decide +kernel
theorem dX10_rows_129 : decode cX10_rows 129 = .ok (.if_icmp .eq 10, 3) := by decide +kernel
theorem dX10_rows_132 : decode cX10_rows 132 = .ok (.iload 9, 2) := by decide +kernel
theorem dX10_rows_134 : decode cX10_rows 134 = .ok (.iload 5, 2) := by decide +kernel
theorem dX10_rows_136 : decode cX10_rows 136 = .ok (.if_icmp .ge 8, 3) := by decide +kernel
theorem dX10_rows_139 : decode cX10_rows 139 = .ok (.iload 9, 2) := by decide +kernel
theorem dX10_rows_141 : decode cX10_rows 141 = .ok (.goto 5, 3) := by decide +kernel
theorem dX10_rows_144 : decode cX10_rows 144 = .ok (.iload 5, 2) := by decide +kernel
theorem dX10_rows_146 : decode cX10_rows 146 = .ok (.istore 5, 2) := by decide +kernel
theorem dX10_rows_148 : decode cX10_rows 148 = .ok (.iload 9, 2) := by decide +kernel
theorem dX10_rows_150 : decode cX10_rows 150 = .ok (.iload 6, 2) := by decide +kernel
theorem dX10_rows_152 : decode cX10_rows 152 = .ok (.if_icmp .le 8, 3) := by decide +kernel
theorem dX10_rows_155 : decode cX10_rows 155 = .ok (.iload 9, 2) := by decide +kernel
theorem dX10_rows_157 : decode cX10_rows 157 = .ok (.goto 5, 3) := by decide +kernel
theorem dX10_rows_160 : decode cX10_rows 160 = .ok (.iload 6, 2) := by decide +kernel
theorem dX10_rows_162 : decode cX10_rows 162 = .ok (.istore 6, 2) := by decide +kernel
theorem dX10_rows_164 : decode cX10_rows 164 = .ok (.iload 7, 2) := by decide +kernel
theorem dX10_rows_166 : decode cX10_rows 166 = .ok (.aload_n 0, 1) := by decide +kernel
theorem dX10_rows_167 : decode cX10_rows 167 = .ok (.invokevirtual 180, 3) := by decide +kernel
theorem dX10_rows_170 : decode cX10_rows 170 = .ok (.ifCond .eq 26, 3) := by decide +kernel
theorem dX10_rows_173 : decode cX10_rows 173 = .ok (.aload_n 0, 1) := by decide +kernel
theorem dX10_rows_174 : decode cX10_rows 174 = .ok (.getfield 158, 3) := by decide +kernel
theorem dX10_rows_177 : decode cX10_rows 177 = .ok (.ifCond .le 19, 3) := by decide +kernel
theorem dX10_rows_180 : decode cX10_rows 180 = .ok (.iconst 1, 1) := by decide +kernel
theorem dX10_rows_181 : decode cX10_rows 181 = .ok (.aload_n 0, 1) := by decide +kernel
theorem dX10_rows_182 : decode cX10_rows 182 = .ok (.getfield 51, 3) := by decide +kernel
theorem dX10_rows_185 : decode cX10_rows 185 = .ok (.aload_n 0, 1) := by decide +kernel
theorem dX10_rows_186 : decode cX10_rows 186 = .ok (.getfield 158, 3) := by decide +kernel
theorem dX10_rows_189 : decode cX10_rows 189 = .ok (.iconst 1, 1) := by decide +kernel
theorem dX10_rows_190 : decode cX10_rows 190 = .ok (.isub, 1) := by decide +kernel
theorem dX10_rows_191 : decode cX10_rows 191 = .ok (.iaload, 1) := by decide +kernel
theorem dX10_rows_192 : decode cX10_rows 192 = .ok (.ishl, 1) := by decide +kernel
theorem dX10_rows_193 : decode cX10_rows 193 = .ok (.goto 4, 3) := by decide +kernel
theorem dX10_rows_196 : decode cX10_rows 196 = .ok (.iconst 0, 1) := by decide +kernel
theorem dX10_rows_197 : decode cX10_rows 197 = .ok (.ior, 1) := by decide +kernel
theorem dX10_rows_198 : decode cX10_rows 198 = .ok (.istore 7, 2) := by decide +kernel
theorem dX10_rows_200 : decode cX10_rows 200 = .ok (.aload_n 0, 1) := by decide +kernel
theorem dX10_rows_201 : decode cX10_rows 201 = .ok (.invokevirtual 185, 3) := by decide +kernel
theorem dX10_rows_204 : decode cX10_rows 204 = .ok (.istore 8, 2) := by decide +kernel
theorem dX10_rows_206 : decode cX10_rows 206 = .ok (.goto (-162), 3) := by decide +kernel
theorem dX10_rows_209 : decode cX10_rows 209 = .ok (.iload_n 1, 1) := by decide +kernel
theorem dX10_rows_210 : decode cX10_rows 210 = .ok (.tableswitch 47 0 4 #[34, 36, 38, 41, 44], 34) := by decide +kernel
theorem dX10_rows_244 : decode cX10_rows 244 = .ok (.iload_n 2, 1) := by decide +kernel
theorem dX10_rows_245 : decode cX10_rows 245 = .ok (.ireturn, 1) := by decide +kernel
theorem dX10_rows_246 : decode cX10_rows 246 = .ok (.iload_n 3, 1) := by decide +kernel
theorem dX10_rows_247 : decode cX10_rows 247 = .ok (.ireturn, 1) := by decide +kernel
theorem dX10_rows_248 : decode cX10_rows 248 = .ok (.iload 4, 2) := by decide +kernel
theorem dX10_rows_250 : decode cX10_rows 250 = .ok (.ireturn, 1) := by decide +kernel
theorem dX10_rows_251 : decode cX10_rows 251 = .ok (.iload 5, 2) := by decide +kernel
theorem dX10_rows_253 : decode cX10_rows 253 = .ok (.ireturn, 1) := by decide +kernel
theorem dX10_rows_254 : decode cX10_rows 254 = .ok (.iload 6, 2) := by decide +kernel
theorem dX10_rows_256 : decode cX10_rows 256 = .ok (.ireturn, 1) := by decide +kernel
theorem dX10_rows_257 : decode cX10_rows 257 = .ok (.iload 7, 2) := by decide +kernel
theorem dX10_rows_259 : decode cX10_rows 259 = .ok (.ireturn, 1) := by decide +kernel
theorem dX10_saw_0 : decode cX10_saw 0 = .ok (.iload_n 1, 1) := by decide +kernel
theorem dX10_saw_1 : decode cX10_saw 1 = .ok (.iconst 0, 1) := by decide +kernel
theorem dX10_saw_2 : decode cX10_saw 2 = .ok (.iconst 5, 1) := by decide +kernel
theorem dX10_saw_3 : decode cX10_saw 3 = .ok (.invokestatic 75, 3) := by decide +kernel
theorem dX10_saw_6 : decode cX10_saw 6 = .ok (.ifCond .eq 11, 3) := by decide +kernel
theorem dX10_saw_9 : decode cX10_saw 9 = .ok (.aload_n 0, 1) := by decide +kernel
theorem dX10_saw_10 : decode cX10_saw 10 = .ok (.iload_n 2, 1) := by decide +kernel
theorem dX10_saw_11 : decode cX10_saw 11 = .ok (.invokevirtual 136, 3) := by decide +kernel
theorem dX10_saw_14 : decode cX10_saw 14 = .ok (.ifCond .ne 5, 3) := by decide +kernel
theorem dX10_saw_17 : decode cX10_saw 17 = .ok (.iconst (-1), 1) := by decide +kernel
theorem dX10_saw_18 : decode cX10_saw 18 = .ok (.ireturn, 1) := by decide +kernel
theorem dX10_saw_19 : decode cX10_saw 19 = .ok (.aload_n 0, 1) := by decide +kernel
theorem dX10_saw_20 : decode cX10_saw 20 = .ok (.getfield 116, 3) := by decide +kernel
theorem dX10_saw_23 : decode cX10_saw 23 = .ok (.bipush 6, 2) := by decide +kernel
theorem dX10_saw_25 : decode cX10_saw 25 = .ok (.if_icmp .ne 6, 3) := by decide +kernel
theorem dX10_saw_28 : decode cX10_saw 28 = .ok (.bipush (-3), 2) := by decide +kernel
theorem dX10_saw_30 : decode cX10_saw 30 = .ok (.ireturn, 1) := by decide +kernel
theorem dX10_saw_31 : decode cX10_saw 31 = .ok (.aload_n 0, 1) := by decide +kernel
theorem dX10_saw_32 : decode cX10_saw 32 = .ok (.getfield 60, 3) := by decide +kernel
theorem dX10_saw_35 : decode cX10_saw 35 = .ok (.aload_n 0, 1) := by decide +kernel
theorem dX10_saw_36 : decode cX10_saw 36 = .ok (.getfield 116, 3) := by decide +kernel
theorem dX10_saw_39 : decode cX10_saw 39 = .ok (.iload_n 1, 1) := by decide +kernel
theorem dX10_saw_40 : decode cX10_saw 40 = .ok (.iastore, 1) := by decide +kernel
theorem dX10_saw_41 : decode cX10_saw 41 = .ok (.aload_n 0, 1) := by decide +kernel
theorem dX10_saw_42 : decode cX10_saw 42 = .ok (.getfield 63, 3) := by decide +kernel
theorem dX10_saw_45 : decode cX10_saw 45 = .ok (.aload_n 0, 1) := by decide +kernel
theorem dX10_saw_46 : decode cX10_saw 46 = .ok (.getfield 116, 3) := by decide +kernel
theorem dX10_saw_49 : decode cX10_saw 49 = .ok (.iload_n 2, 1) := by decide +kernel
theorem dX10_saw_50 : decode cX10_saw 50 = .ok (.iastore, 1) := by decide +kernel
theorem dX10_saw_51 : decode cX10_saw 51 = .ok (.aload_n 0, 1) := by decide +kernel
theorem dX10_saw_52 : decode cX10_saw 52 = .ok (.dup, 1) := by decide +kernel
theorem dX10_saw_53 : decode cX10_saw 53 = .ok (.getfield 116, 3) := by decide +kernel
theorem dX10_saw_56 : decode cX10_saw 56 = .ok (.iconst 1, 1) := by decide +kernel
theorem dX10_saw_57 : decode cX10_saw 57 = .ok (.iadd, 1) := by decide +kernel
theorem dX10_saw_58 : decode cX10_saw 58 = .ok (.putfield 116, 3) := by decide +kernel
theorem dX10_saw_61 : decode cX10_saw 61 = .ok (.aload_n 0, 1) := by decide +kernel
theorem dX10_saw_62 : decode cX10_saw 62 = .ok (.getfield 116, 3) := by decide +kernel
theorem dX10_saw_65 : decode cX10_saw 65 = .ok (.ireturn, 1) := by decide +kernel
theorem dX10_forget_0 : decode cX10_forget 0 = .ok (.aload_n 0, 1) := by decide +kernel
theorem dX10_forget_1 : decode cX10_forget 1 = .ok (.getfield 116, 3) := by decide +kernel
theorem dX10_forget_4 : decode cX10_forget 4 = .ok (.istore_n 1, 1) := by decide +kernel
theorem dX10_forget_5 : decode cX10_forget 5 = .ok (.aload_n 0, 1) := by decide +kernel
theorem dX10_forget_6 : decode cX10_forget 6 = .ok (.iconst 0, 1) := by decide +kernel
theorem dX10_forget_7 : decode cX10_forget 7 = .ok (.putfield 116, 3) := by decide +kernel
theorem dX10_forget_10 : decode cX10_forget 10 = .ok (.iload_n 1, 1) := by decide +kernel
theorem dX10_forget_11 : decode cX10_forget 11 = .ok (.ireturn, 1) := by decide +kernel
theorem dX10_isSo_0 : decode cX10_isSo 0 = .ok (.iconst 1, 1) := by decide +kernel
theorem dX10_isSo_1 : decode cX10_isSo 1 = .ok (.istore_n 1, 1) := by decide +kernel
theorem dX10_isSo_2 : decode cX10_isSo 2 = .ok (.iconst 0, 1) := by decide +kernel
theorem dX10_isSo_3 : decode cX10_isSo 3 = .ok (.istore_n 2, 1) := by decide +kernel
theorem dX10_isSo_4 : decode cX10_isSo 4 = .ok (.iload_n 2, 1) := by decide +kernel
theorem dX10_isSo_5 : decode cX10_isSo 5 = .ok (.aload_n 0, 1) := by decide +kernel
theorem dX10_isSo_6 : decode cX10_isSo 6 = .ok (.getfield 116, 3) := by decide +kernel
theorem dX10_isSo_9 : decode cX10_isSo 9 = .ok (.if_icmp .ge 52, 3) := by decide +kernel
theorem dX10_isSo_12 : decode cX10_isSo 12 = .ok (.iload_n 1, 1) := by decide +kernel
theorem dX10_isSo_13 : decode cX10_isSo 13 = .ok (.ifCond .eq 40, 3) := by decide +kernel
theorem dX10_isSo_16 : decode cX10_isSo 16 = .ok (.aload_n 0, 1) := by decide +kernel
theorem dX10_isSo_17 : decode cX10_isSo 17 = .ok (.getfield 60, 3) := by decide +kernel
theorem dX10_isSo_20 : decode cX10_isSo 20 = .ok (.iload_n 2, 1) := by decide +kernel
theorem dX10_isSo_21 : decode cX10_isSo 21 = .ok (.iaload, 1) := by decide +kernel
theorem dX10_isSo_22 : decode cX10_isSo 22 = .ok (.aload_n 0, 1) := by decide +kernel
theorem dX10_isSo_23 : decode cX10_isSo 23 = .ok (.getfield 158, 3) := by decide +kernel
theorem dX10_isSo_26 : decode cX10_isSo 26 = .ok (.if_icmp .ge 27, 3) := by decide +kernel
theorem dX10_isSo_29 : decode cX10_isSo 29 = .ok (.aload_n 0, 1) := by decide +kernel
theorem dX10_isSo_30 : decode cX10_isSo 30 = .ok (.getfield 54, 3) := by decide +kernel
theorem dX10_isSo_33 : decode cX10_isSo 33 = .ok (.aload_n 0, 1) := by decide +kernel
theorem dX10_isSo_34 : decode cX10_isSo 34 = .ok (.getfield 60, 3) := by decide +kernel
theorem dX10_isSo_37 : decode cX10_isSo 37 = .ok (.iload_n 2, 1) := by decide +kernel
theorem dX10_isSo_38 : decode cX10_isSo 38 = .ok (.iaload, 1) := by decide +kernel
theorem dX10_isSo_39 : decode cX10_isSo 39 = .ok (.iaload, 1) := by decide +kernel
theorem dX10_isSo_40 : decode cX10_isSo 40 = .ok (.aload_n 0, 1) := by decide +kernel
theorem dX10_isSo_41 : decode cX10_isSo 41 = .ok (.getfield 63, 3) := by decide +kernel
theorem dX10_isSo_44 : decode cX10_isSo 44 = .ok (.iload_n 2, 1) := by decide +kernel
theorem dX10_isSo_45 : decode cX10_isSo 45 = .ok (.iaload, 1) := by decide +kernel
theorem dX10_isSo_46 : decode cX10_isSo 46 = .ok (.if_icmp .ne 7, 3) := by decide +kernel
theorem dX10_isSo_49 : decode cX10_isSo 49 = .ok (.iconst 1, 1) := by decide +kernel
theorem dX10_isSo_50 : decode cX10_isSo 50 = .ok (.goto 4, 3) := by decide +kernel
theorem dX10_isSo_53 : decode cX10_isSo 53 = .ok (.iconst 0, 1) := by decide +kernel
theorem dX10_isSo_54 : decode cX10_isSo 54 = .ok (.istore_n 1, 1) := by decide +kernel
theorem dX10_isSo_55 : decode cX10_isSo 55 = .ok (.iinc 2 1, 3) := by decide +kernel
theorem dX10_isSo_58 : decode cX10_isSo 58 = .ok (.goto (-54), 3) := by decide +kernel
theorem dX10_isSo_61 : decode cX10_isSo 61 = .ok (.iload_n 1, 1) := by decide +kernel
theorem dX10_isSo_62 : decode cX10_isSo 62 = .ok (.ireturn, 1) := by decide +kernel
theorem dX10_fits_0 : decode cX10_fits 0 = .ok (.iload_n 1, 1) := by decide +kernel
theorem dX10_fits_1 : decode cX10_fits 1 = .ok (.iconst (-1), 1) := by decide +kernel
theorem dX10_fits_2 : decode cX10_fits 2 = .ok (.iconst 5, 1) := by decide +kernel
theorem dX10_fits_3 : decode cX10_fits 3 = .ok (.invokestatic 75, 3) := by decide +kernel
theorem dX10_fits_6 : decode cX10_fits 6 = .ok (.ifCond .ne 5, 3) := by decide +kernel
theorem dX10_fits_9 : decode cX10_fits 9 = .ok (.iconst (-1), 1) := by decide +kernel
theorem dX10_fits_10 : decode cX10_fits 10 = .ok (.ireturn, 1) := by decide +kernel
theorem dX10_fits_11 : decode cX10_fits 11 = .ok (.aload_n 0, 1) := by decide +kernel
theorem dX10_fits_12 : decode cX10_fits 12 = .ok (.invokevirtual 171, 3) := by decide +kernel
theorem dX10_fits_15 : decode cX10_fits 15 = .ok (.iconst 1, 1) := by decide +kernel
theorem dX10_fits_16 : decode cX10_fits 16 = .ok (.istore_n 2, 1) := by decide +kernel
theorem dX10_fits_17 : decode cX10_fits 17 = .ok (.iconst 0, 1) := by decide +kernel
theorem dX10_fits_18 : decode cX10_fits 18 = .ok (.istore_n 3, 1) := by decide +kernel
theorem dX10_fits_19 : decode cX10_fits 19 = .ok (.iconst 0, 1) := by decide +kernel
theorem dX10_fits_20 : decode cX10_fits 20 = .ok (.istore 4, 2) := by decide +kernel
theorem dX10_fits_22 : decode cX10_fits 22 = .ok (.iload_n 2, 1) := by decide +kernel
theorem dX10_fits_23 : decode cX10_fits 23 = .ok (.ifCond .eq 54, 3) := by decide +kernel
theorem dX10_fits_26 : decode cX10_fits 26 = .ok (.aload_n 0, 1) := by decide +kernel
theorem dX10_fits_27 : decode cX10_fits 27 = .ok (.invokevirtual 177, 3) := by decide +kernel
theorem dX10_fits_30 : decode cX10_fits 30 = .ok (.aload_n 0, 1) := by decide +kernel
theorem dX10_fits_31 : decode cX10_fits 31 = .ok (.invokevirtual 191, 3) := by decide +kernel
theorem dX10_fits_34 : decode cX10_fits 34 = .ok (.ifCond .eq 35, 3) := by decide +kernel
theorem dX10_fits_37 : decode cX10_fits 37 = .ok (.iinc 3 1, 3) := by decide +kernel
theorem dX10_fits_40 : decode cX10_fits 40 = .ok (.iload 4, 2) := by decide +kernel
theorem dX10_fits_42 : decode cX10_fits 42 = .ok (.iload_n 1, 1) := by decide +kernel
theorem dX10_fits_43 : decode cX10_fits 43 = .ok (.ifCond .lt 22, 3) := by decide +kernel
theorem dX10_fits_46 : decode cX10_fits 46 = .ok (.iload_n 1, 1) := by decide +kernel
theorem dX10_fits_47 : decode cX10_fits 47 = .ok (.aload_n 0, 1) := by decide +kernel
theorem dX10_fits_48 : decode cX10_fits 48 = .ok (.getfield 158, 3) := by decide +kernel
theorem dX10_fits_51 : decode cX10_fits 51 = .ok (.if_icmp .ge 14, 3) := by decide +kernel
theorem dX10_fits_54 : decode cX10_fits 54 = .ok (.iconst 1, 1) := by decide +kernel
theorem dX10_fits_55 : decode cX10_fits 55 = .ok (.aload_n 0, 1) := by decide +kernel
theorem dX10_fits_56 : decode cX10_fits 56 = .ok (.getfield 51, 3) := by decide +kernel
theorem dX10_fits_59 : decode cX10_fits 59 = .ok (.iload_n 1, 1) := by decide +kernel
theorem dX10_fits_60 : decode cX10_fits 60 = .ok (.iaload, 1) := by decide +kernel
theorem dX10_fits_61 : decode cX10_fits 61 = .ok (.ishl, 1) := by decide +kernel
theorem dX10_fits_62 : decode cX10_fits 62 = .ok (.goto 4, 3) := by decide +kernel
theorem dX10_fits_65 : decode cX10_fits 65 = .ok (.iconst 0, 1) := by decide +kernel
theorem dX10_fits_66 : decode cX10_fits 66 = .ok (.ior, 1) := by decide +kernel
theorem dX10_fits_67 : decode cX10_fits 67 = .ok (.istore 4, 2) := by decide +kernel
theorem dX10_fits_69 : decode cX10_fits 69 = .ok (.aload_n 0, 1) := by decide +kernel
theorem dX10_fits_70 : decode cX10_fits 70 = .ok (.invokevirtual 185, 3) := by decide +kernel
theorem dX10_fits_73 : decode cX10_fits 73 = .ok (.istore_n 2, 1) := by decide +kernel
theorem dX10_fits_74 : decode cX10_fits 74 = .ok (.goto (-52), 3) := by decide +kernel
theorem dX10_fits_77 : decode cX10_fits 77 = .ok (.iload_n 1, 1) := by decide +kernel
theorem dX10_fits_78 : decode cX10_fits 78 = .ok (.iconst (-1), 1) := by decide +kernel
theorem dX10_fits_79 : decode cX10_fits 79 = .ok (.if_icmp .eq 8, 3) := by decide +kernel
theorem dX10_fits_82 : decode cX10_fits 82 = .ok (.iload 4, 2) := by decide +kernel
theorem dX10_fits_84 : decode cX10_fits 84 = .ok (.ifCond .ne 15, 3) := by decide +kernel
theorem dX10_fits_87 : decode cX10_fits 87 = .ok (.iload_n 1, 1) := by decide +kernel
theorem dX10_fits_88 : decode cX10_fits 88 = .ok (.iconst (-1), 1) := by decide +kernel
theorem dX10_fits_89 : decode cX10_fits 89 = .ok (.if_icmp .ne 7, 3) := by decide +kernel
theorem dX10_fits_92 : decode cX10_fits 92 = .ok (.iload_n 3, 1) := by decide +kernel
theorem dX10_fits_93 : decode cX10_fits 93 = .ok (.goto 5, 3) := by decide +kernel
theorem dX10_fits_96 : decode cX10_fits 96 = .ok (.bipush (-9), 2) := by decide +kernel
theorem dX10_fits_98 : decode cX10_fits 98 = .ok (.ireturn, 1) := by decide +kernel
theorem dX10_fits_99 : decode cX10_fits 99 = .ok (.iconst 0, 1) := by decide +kernel
theorem dX10_fits_100 : decode cX10_fits 100 = .ok (.istore 5, 2) := by decide +kernel
theorem dX10_fits_102 : decode cX10_fits 102 = .ok (.iload 4, 2) := by decide +kernel
theorem dX10_fits_104 : decode cX10_fits 104 = .ok (.iload 5, 2) := by decide +kernel
theorem dX10_fits_106 : decode cX10_fits 106 = .ok (.ishr, 1) := by decide +kernel
theorem dX10_fits_107 : decode cX10_fits 107 = .ok (.iconst 1, 1) := by decide +kernel
theorem dX10_fits_108 : decode cX10_fits 108 = .ok (.iand, 1) := by decide +kernel
theorem dX10_fits_109 : decode cX10_fits 109 = .ok (.ifCond .ne 9, 3) := by decide +kernel
theorem dX10_fits_112 : decode cX10_fits 112 = .ok (.iinc 5 1, 3) := by decide +kernel
theorem dX10_fits_115 : decode cX10_fits 115 = .ok (.goto (-13), 3) := by decide +kernel
theorem dX10_fits_118 : decode cX10_fits 118 = .ok (.iload 4, 2) := by decide +kernel
theorem dX10_fits_120 : decode cX10_fits 120 = .ok (.iconst 1, 1) := by decide +kernel
theorem dX10_fits_121 : decode cX10_fits 121 = .ok (.iload 5, 2) := by decide +kernel
theorem dX10_fits_123 : decode cX10_fits 123 = .ok (.ishl, 1) := by decide +kernel
theorem dX10_fits_124 : decode cX10_fits 124 = .ok (.if_icmp .ne 8, 3) := by decide +kernel
theorem dX10_fits_127 : decode cX10_fits 127 = .ok (.iload 5, 2) := by decide +kernel
theorem dX10_fits_129 : decode cX10_fits 129 = .ok (.goto 5, 3) := by decide +kernel
theorem dX10_fits_132 : decode cX10_fits 132 = .ok (.bipush (-5), 2) := by decide +kernel
theorem dX10_fits_134 : decode cX10_fits 134 = .ok (.ireturn, 1) := by decide +kernel
theorem dX10_plans_0 : decode cX10_plans 0 = .ok (.aload_n 0, 1) := by decide +kernel
theorem dX10_plans_1 : decode cX10_plans 1 = .ok (.iload_n 1, 1) := by decide +kernel
theorem dX10_plans_2 : decode cX10_plans 2 = .ok (.invokevirtual 133, 3) := by decide +kernel
theorem dX10_plans_5 : decode cX10_plans 5 = .ok (.ifCond .ne 5, 3) := by decide +kernel
theorem dX10_plans_8 : decode cX10_plans 8 = .ok (.iconst (-1), 1) := by decide +kernel
theorem dX10_plans_9 : decode cX10_plans 9 = .ok (.ireturn, 1) := by decide +kernel
theorem dX10_plans_10 : decode cX10_plans 10 = .ok (.aload_n 0, 1) := by decide +kernel
theorem dX10_plans_11 : decode cX10_plans 11 = .ok (.getfield 119, 3) := by decide +kernel
theorem dX10_plans_14 : decode cX10_plans 14 = .ok (.bipush 6, 2) := by decide +kernel
theorem dX10_plans_16 : decode cX10_plans 16 = .ok (.if_icmp .ne 6, 3) := by decide +kernel
theorem dX10_plans_19 : decode cX10_plans 19 = .ok (.bipush (-3), 2) := by decide +kernel
theorem dX10_plans_21 : decode cX10_plans 21 = .ok (.ireturn, 1) := by decide +kernel
theorem dX10_plans_22 : decode cX10_plans 22 = .ok (.aload_n 0, 1) := by decide +kernel
theorem dX10_plans_23 : decode cX10_plans 23 = .ok (.getfield 66, 3) := by decide +kernel
theorem dX10_plans_26 : decode cX10_plans 26 = .ok (.aload_n 0, 1) := by decide +kernel
theorem dX10_plans_27 : decode cX10_plans 27 = .ok (.getfield 119, 3) := by decide +kernel
theorem dX10_plans_30 : decode cX10_plans 30 = .ok (.iload_n 1, 1) := by decide +kernel
theorem dX10_plans_31 : decode cX10_plans 31 = .ok (.iastore, 1) := by decide +kernel
theorem dX10_plans_32 : decode cX10_plans 32 = .ok (.aload_n 0, 1) := by decide +kernel
theorem dX10_plans_33 : decode cX10_plans 33 = .ok (.dup, 1) := by decide +kernel
theorem dX10_plans_34 : decode cX10_plans 34 = .ok (.getfield 119, 3) := by decide +kernel
theorem dX10_plans_37 : decode cX10_plans 37 = .ok (.iconst 1, 1) := by decide +kernel
theorem dX10_plans_38 : decode cX10_plans 38 = .ok (.iadd, 1) := by decide +kernel
theorem dX10_plans_39 : decode cX10_plans 39 = .ok (.putfield 119, 3) := by decide +kernel
theorem dX10_plans_42 : decode cX10_plans 42 = .ok (.aload_n 0, 1) := by decide +kernel
theorem dX10_plans_43 : decode cX10_plans 43 = .ok (.getfield 119, 3) := by decide +kernel
theorem dX10_plans_46 : decode cX10_plans 46 = .ok (.ireturn, 1) := by decide +kernel
theorem dX10_drops_0 : decode cX10_drops 0 = .ok (.aload_n 0, 1) := by decide +kernel
theorem dX10_drops_1 : decode cX10_drops 1 = .ok (.getfield 119, 3) := by decide +kernel
theorem dX10_drops_4 : decode cX10_drops 4 = .ok (.istore_n 1, 1) := by decide +kernel
theorem dX10_drops_5 : decode cX10_drops 5 = .ok (.aload_n 0, 1) := by decide +kernel
theorem dX10_drops_6 : decode cX10_drops 6 = .ok (.iconst 0, 1) := by decide +kernel
theorem dX10_drops_7 : decode cX10_drops 7 = .ok (.putfield 119, 3) := by decide +kernel
theorem dX10_drops_10 : decode cX10_drops 10 = .ok (.iload_n 1, 1) := by decide +kernel
theorem dX10_drops_11 : decode cX10_drops 11 = .ok (.ireturn, 1) := by decide +kernel
theorem dX10_goPlan_0 : decode cX10_goPlan 0 = .ok (.aload_n 0, 1) := by decide +kernel
theorem dX10_goPlan_1 : decode cX10_goPlan 1 = .ok (.invokevirtual 165, 3) := by decide +kernel
theorem dX10_goPlan_4 : decode cX10_goPlan 4 = .ok (.iconst 0, 1) := by decide +kernel
theorem dX10_goPlan_5 : decode cX10_goPlan 5 = .ok (.istore_n 2, 1) := by decide +kernel
theorem dX10_goPlan_6 : decode cX10_goPlan 6 = .ok (.aload_n 0, 1) := by decide +kernel
theorem dX10_goPlan_7 : decode cX10_goPlan 7 = .ok (.getfield 38, 3) := by decide +kernel
theorem dX10_goPlan_10 : decode cX10_goPlan 10 = .ok (.iconst 3, 1) := by decide +kernel
theorem dX10_goPlan_11 : decode cX10_goPlan 11 = .ok (.iaload, 1) := by decide +kernel
theorem dX10_goPlan_12 : decode cX10_goPlan 12 = .ok (.istore_n 3, 1) := by decide +kernel
theorem dX10_goPlan_13 : decode cX10_goPlan 13 = .ok (.iconst 0, 1) := by decide +kernel
theorem dX10_goPlan_14 : decode cX10_goPlan 14 = .ok (.istore 4, 2) := by decide +kernel
theorem dX10_goPlan_16 : decode cX10_goPlan 16 = .ok (.iload 4, 2) := by decide +kernel
theorem dX10_goPlan_18 : decode cX10_goPlan 18 = .ok (.aload_n 0, 1) := by decide +kernel
theorem dX10_goPlan_19 : decode cX10_goPlan 19 = .ok (.getfield 119, 3) := by decide +kernel
theorem dX10_goPlan_22 : decode cX10_goPlan 22 = .ok (.if_icmp .ge 56, 3) := by decide +kernel
theorem dX10_goPlan_25 : decode cX10_goPlan 25 = .ok (.aload_n 0, 1) := by decide +kernel
theorem dX10_goPlan_26 : decode cX10_goPlan 26 = .ok (.getfield 66, 3) := by decide +kernel
theorem dX10_goPlan_29 : decode cX10_goPlan 29 = .ok (.iload 4, 2) := by decide +kernel
theorem dX10_goPlan_31 : decode cX10_goPlan 31 = .ok (.iaload, 1) := by decide +kernel
theorem dX10_goPlan_32 : decode cX10_goPlan 32 = .ok (.istore 5, 2) := by decide +kernel
theorem dX10_goPlan_34 : decode cX10_goPlan 34 = .ok (.iload_n 3, 1) := by decide +kernel
theorem dX10_goPlan_35 : decode cX10_goPlan 35 = .ok (.iload 5, 2) := by decide +kernel
theorem dX10_goPlan_37 : decode cX10_goPlan 37 = .ok (.ishr, 1) := by decide +kernel
theorem dX10_goPlan_38 : decode cX10_goPlan 38 = .ok (.iconst 1, 1) := by decide +kernel
theorem dX10_goPlan_39 : decode cX10_goPlan 39 = .ok (.iand, 1) := by decide +kernel
theorem dX10_goPlan_40 : decode cX10_goPlan 40 = .ok (.ifCond .ne 32, 3) := by decide +kernel
theorem dX10_goPlan_43 : decode cX10_goPlan 43 = .ok (.iload_n 3, 1) := by decide +kernel
theorem dX10_goPlan_44 : decode cX10_goPlan 44 = .ok (.iconst 1, 1) := by decide +kernel
theorem dX10_goPlan_45 : decode cX10_goPlan 45 = .ok (.iload 5, 2) := by decide +kernel
theorem dX10_goPlan_47 : decode cX10_goPlan 47 = .ok (.ishl, 1) := by decide +kernel
theorem dX10_goPlan_48 : decode cX10_goPlan 48 = .ok (.ior, 1) := by decide +kernel
theorem dX10_goPlan_49 : decode cX10_goPlan 49 = .ok (.istore_n 3, 1) := by decide +kernel
theorem dX10_goPlan_50 : decode cX10_goPlan 50 = .ok (.iload_n 1, 1) := by decide +kernel
theorem dX10_goPlan_51 : decode cX10_goPlan 51 = .ok (.iload_n 2, 1) := by decide +kernel
theorem dX10_goPlan_52 : decode cX10_goPlan 52 = .ok (.ishr, 1) := by decide +kernel
theorem dX10_goPlan_53 : decode cX10_goPlan 53 = .ok (.iconst 1, 1) := by decide +kernel
theorem dX10_goPlan_54 : decode cX10_goPlan 54 = .ok (.iand, 1) := by decide +kernel
theorem dX10_goPlan_55 : decode cX10_goPlan 55 = .ok (.ifCond .ne 14, 3) := by decide +kernel
theorem dX10_goPlan_58 : decode cX10_goPlan 58 = .ok (.aload_n 0, 1) := by decide +kernel
theorem dX10_goPlan_59 : decode cX10_goPlan 59 = .ok (.aload_n 0, 1) := by decide +kernel
theorem dX10_goPlan_60 : decode cX10_goPlan 60 = .ok (.getfield 45, 3) := by decide +kernel
theorem dX10_goPlan_63 : decode cX10_goPlan 63 = .ok (.iload 5, 2) := by decide +kernel
theorem dX10_goPlan_65 : decode cX10_goPlan 65 = .ok (.invokevirtual 146, 3) := by decide +kernel
theorem dX10_goPlan_68 : decode cX10_goPlan 68 = .ok (.pop, 1) := by decide +kernel
theorem dX10_goPlan_69 : decode cX10_goPlan 69 = .ok (.iinc 2 1, 3) := by decide +kernel
theorem dX10_goPlan_72 : decode cX10_goPlan 72 = .ok (.iinc 4 1, 3) := by decide +kernel
theorem dX10_goPlan_75 : decode cX10_goPlan 75 = .ok (.goto (-59), 3) := by decide +kernel
theorem dX10_goPlan_78 : decode cX10_goPlan 78 = .ok (.iload_n 2, 1) := by decide +kernel
theorem dX10_goPlan_79 : decode cX10_goPlan 79 = .ok (.ireturn, 1) := by decide +kernel
theorem dX10_planned_0 : decode cX10_planned 0 = .ok (.iload_n 1, 1) := by decide +kernel
theorem dX10_planned_1 : decode cX10_planned 1 = .ok (.iconst 0, 1) := by decide +kernel
theorem dX10_planned_2 : decode cX10_planned 2 = .ok (.iconst 3, 1) := by decide +kernel
theorem dX10_planned_3 : decode cX10_planned 3 = .ok (.invokestatic 75, 3) := by decide +kernel
theorem dX10_planned_6 : decode cX10_planned 6 = .ok (.ifCond .ne 5, 3) := by decide +kernel
theorem dX10_planned_9 : decode cX10_planned 9 = .ok (.iconst (-1), 1) := by decide +kernel
theorem dX10_planned_10 : decode cX10_planned 10 = .ok (.ireturn, 1) := by decide +kernel
theorem dX10_planned_11 : decode cX10_planned 11 = .ok (.aload_n 0, 1) := by decide +kernel
theorem dX10_planned_12 : decode cX10_planned 12 = .ok (.iconst 0, 1) := by decide +kernel
theorem dX10_planned_13 : decode cX10_planned 13 = .ok (.invokevirtual 194, 3) := by decide +kernel
theorem dX10_planned_16 : decode cX10_planned 16 = .ok (.istore_n 2, 1) := by decide +kernel
theorem dX10_planned_17 : decode cX10_planned 17 = .ok (.iload_n 1, 1) := by decide +kernel
theorem dX10_planned_18 : decode cX10_planned 18 = .ok (.tableswitch 75 0 2 #[26, 47, 61], 26) := by decide +kernel
theorem dX10_planned_44 : decode cX10_planned 44 = .ok (.aload_n 0, 1) := by decide +kernel
theorem dX10_planned_45 : decode cX10_planned 45 = .ok (.getfield 13, 3) := by decide +kernel
theorem dX10_planned_48 : decode cX10_planned 48 = .ok (.iconst 0, 1) := by decide +kernel
theorem dX10_planned_49 : decode cX10_planned 49 = .ok (.iaload, 1) := by decide +kernel
theorem dX10_planned_50 : decode cX10_planned 50 = .ok (.ifCond .ne 8, 3) := by decide +kernel
theorem dX10_planned_53 : decode cX10_planned 53 = .ok (.bipush (-9), 2) := by decide +kernel
theorem dX10_planned_55 : decode cX10_planned 55 = .ok (.goto 9, 3) := by decide +kernel
theorem dX10_planned_58 : decode cX10_planned 58 = .ok (.aload_n 0, 1) := by decide +kernel
theorem dX10_planned_59 : decode cX10_planned 59 = .ok (.getfield 45, 3) := by decide +kernel
theorem dX10_planned_62 : decode cX10_planned 62 = .ok (.iconst 0, 1) := by decide +kernel
theorem dX10_planned_63 : decode cX10_planned 63 = .ok (.iaload, 1) := by decide +kernel
theorem dX10_planned_64 : decode cX10_planned 64 = .ok (.ireturn, 1) := by decide +kernel
theorem dX10_planned_65 : decode cX10_planned 65 = .ok (.aload_n 0, 1) := by decide +kernel
theorem dX10_planned_66 : decode cX10_planned 66 = .ok (.getfield 45, 3) := by decide +kernel
theorem dX10_planned_69 : decode cX10_planned 69 = .ok (.iconst 1, 1) := by decide +kernel
theorem dX10_planned_70 : decode cX10_planned 70 = .ok (.iaload, 1) := by decide +kernel
theorem dX10_planned_71 : decode cX10_planned 71 = .ok (.aload_n 0, 1) := by decide +kernel
theorem dX10_planned_72 : decode cX10_planned 72 = .ok (.getfield 38, 3) := by decide +kernel
theorem dX10_planned_75 : decode cX10_planned 75 = .ok (.iconst 1, 1) := by decide +kernel
theorem dX10_planned_76 : decode cX10_planned 76 = .ok (.iaload, 1) := by decide +kernel
theorem dX10_planned_77 : decode cX10_planned 77 = .ok (.isub, 1) := by decide +kernel
theorem dX10_planned_78 : decode cX10_planned 78 = .ok (.ireturn, 1) := by decide +kernel
theorem dX10_planned_79 : decode cX10_planned 79 = .ok (.aload_n 0, 1) := by decide +kernel
theorem dX10_planned_80 : decode cX10_planned 80 = .ok (.getfield 45, 3) := by decide +kernel
theorem dX10_planned_83 : decode cX10_planned 83 = .ok (.iconst 2, 1) := by decide +kernel
theorem dX10_planned_84 : decode cX10_planned 84 = .ok (.iaload, 1) := by decide +kernel
theorem dX10_planned_85 : decode cX10_planned 85 = .ok (.aload_n 0, 1) := by decide +kernel
theorem dX10_planned_86 : decode cX10_planned 86 = .ok (.getfield 38, 3) := by decide +kernel
theorem dX10_planned_89 : decode cX10_planned 89 = .ok (.iconst 2, 1) := by decide +kernel
theorem dX10_planned_90 : decode cX10_planned 90 = .ok (.iaload, 1) := by decide +kernel
theorem dX10_planned_91 : decode cX10_planned 91 = .ok (.isub, 1) := by decide +kernel
theorem dX10_planned_92 : decode cX10_planned 92 = .ok (.ireturn, 1) := by decide +kernel
theorem dX10_planned_93 : decode cX10_planned 93 = .ok (.iload_n 2, 1) := by decide +kernel
theorem dX10_planned_94 : decode cX10_planned 94 = .ok (.ireturn, 1) := by decide +kernel
theorem dX10_odds_0 : decode cX10_odds 0 = .ok (.iload_n 1, 1) := by decide +kernel
theorem dX10_odds_1 : decode cX10_odds 1 = .ok (.iconst 0, 1) := by decide +kernel
theorem dX10_odds_2 : decode cX10_odds 2 = .ok (.bipush 10, 2) := by decide +kernel
theorem dX10_odds_4 : decode cX10_odds 4 = .ok (.invokestatic 75, 3) := by decide +kernel
theorem dX10_odds_7 : decode cX10_odds 7 = .ok (.ifCond .eq 12, 3) := by decide +kernel
theorem dX10_odds_10 : decode cX10_odds 10 = .ok (.iload_n 2, 1) := by decide +kernel
theorem dX10_odds_11 : decode cX10_odds 11 = .ok (.iconst 0, 1) := by decide +kernel
theorem dX10_odds_12 : decode cX10_odds 12 = .ok (.iconst 1, 1) := by decide +kernel
theorem dX10_odds_13 : decode cX10_odds 13 = .ok (.invokestatic 75, 3) := by decide +kernel
theorem dX10_odds_16 : decode cX10_odds 16 = .ok (.ifCond .ne 5, 3) := by decide +kernel
theorem dX10_odds_19 : decode cX10_odds 19 = .ok (.iconst (-1), 1) := by decide +kernel
theorem dX10_odds_20 : decode cX10_odds 20 = .ok (.ireturn, 1) := by decide +kernel
theorem dX10_odds_21 : decode cX10_odds 21 = .ok (.aload_n 0, 1) := by decide +kernel
theorem dX10_odds_22 : decode cX10_odds 22 = .ok (.iconst 0, 1) := by decide +kernel
theorem dX10_odds_23 : decode cX10_odds 23 = .ok (.invokevirtual 194, 3) := by decide +kernel
theorem dX10_odds_26 : decode cX10_odds 26 = .ok (.istore_n 3, 1) := by decide +kernel
theorem dX10_odds_27 : decode cX10_odds 27 = .ok (.iconst 0, 1) := by decide +kernel
theorem dX10_odds_28 : decode cX10_odds 28 = .ok (.istore 4, 2) := by decide +kernel
theorem dX10_odds_30 : decode cX10_odds 30 = .ok (.iconst 1, 1) := by decide +kernel
theorem dX10_odds_31 : decode cX10_odds 31 = .ok (.istore 5, 2) := by decide +kernel
theorem dX10_odds_33 : decode cX10_odds 33 = .ok (.iconst 0, 1) := by decide +kernel
theorem dX10_odds_34 : decode cX10_odds 34 = .ok (.istore 6, 2) := by decide +kernel
theorem dX10_odds_36 : decode cX10_odds 36 = .ok (.iload 6, 2) := by decide +kernel
theorem dX10_odds_38 : decode cX10_odds 38 = .ok (.iload_n 3, 1) := by decide +kernel
theorem dX10_odds_39 : decode cX10_odds 39 = .ok (.if_icmp .ge 16, 3) := by decide +kernel
theorem dX10_odds_42 : decode cX10_odds 42 = .ok (.iload 5, 2) := by decide +kernel
theorem dX10_odds_44 : decode cX10_odds 44 = .ok (.bipush 10, 2) := by decide +kernel
theorem dX10_odds_46 : decode cX10_odds 46 = .ok (.imul, 1) := by decide +kernel
theorem dX10_odds_47 : decode cX10_odds 47 = .ok (.istore 5, 2) := by decide +kernel
theorem dX10_odds_49 : decode cX10_odds 49 = .ok (.iinc 6 1, 3) := by decide +kernel
theorem dX10_odds_52 : decode cX10_odds 52 = .ok (.goto (-16), 3) := by decide +kernel
theorem dX10_odds_55 : decode cX10_odds 55 = .ok (.iconst 0, 1) := by decide +kernel
theorem dX10_odds_56 : decode cX10_odds 56 = .ok (.istore 6, 2) := by decide +kernel
theorem dX10_odds_58 : decode cX10_odds 58 = .ok (.iload 6, 2) := by decide +kernel
theorem dX10_odds_60 : decode cX10_odds 60 = .ok (.iconst 1, 1) := by decide +kernel
theorem dX10_odds_61 : decode cX10_odds 61 = .ok (.iload_n 3, 1) := by decide +kernel
theorem dX10_odds_62 : decode cX10_odds 62 = .ok (.ishl, 1) := by decide +kernel
theorem dX10_odds_63 : decode cX10_odds 63 = .ok (.if_icmp .ge 76, 3) := by decide +kernel
theorem dX10_odds_66 : decode cX10_odds 66 = .ok (.iconst 1, 1) := by decide +kernel
theorem dX10_odds_67 : decode cX10_odds 67 = .ok (.istore 7, 2) := by decide +kernel
theorem dX10_odds_69 : decode cX10_odds 69 = .ok (.iconst 0, 1) := by decide +kernel
theorem dX10_odds_70 : decode cX10_odds 70 = .ok (.istore 8, 2) := by decide +kernel
theorem dX10_odds_72 : decode cX10_odds 72 = .ok (.iload 8, 2) := by decide +kernel
theorem dX10_odds_74 : decode cX10_odds 74 = .ok (.iload_n 3, 1) := by decide +kernel
theorem dX10_odds_75 : decode cX10_odds 75 = .ok (.if_icmp .ge 33, 3) := by decide +kernel
theorem dX10_odds_78 : decode cX10_odds 78 = .ok (.iload 7, 2) := by decide +kernel
theorem dX10_odds_80 : decode cX10_odds 80 = .ok (.iload 6, 2) := by decide +kernel
theorem dX10_odds_82 : decode cX10_odds 82 = .ok (.iload 8, 2) := by decide +kernel
theorem dX10_odds_84 : decode cX10_odds 84 = .ok (.ishr, 1) := by decide +kernel
theorem dX10_odds_85 : decode cX10_odds 85 = .ok (.iconst 1, 1) := by decide +kernel
theorem dX10_odds_86 : decode cX10_odds 86 = .ok (.iand, 1) := by decide +kernel
theorem dX10_odds_87 : decode cX10_odds 87 = .ok (.iconst 1, 1) := by decide +kernel
theorem dX10_odds_88 : decode cX10_odds 88 = .ok (.if_icmp .ne 7, 3) := by decide +kernel
theorem dX10_odds_91 : decode cX10_odds 91 = .ok (.iload_n 1, 1) := by decide +kernel
theorem dX10_odds_92 : decode cX10_odds 92 = .ok (.goto 7, 3) := by decide +kernel
theorem dX10_odds_95 : decode cX10_odds 95 = .ok (.bipush 10, 2) := by decide +kernel
theorem dX10_odds_97 : decode cX10_odds 97 = .ok (.iload_n 1, 1) := by decide +kernel
theorem dX10_odds_98 : decode cX10_odds 98 = .ok (.isub, 1) := by decide +kernel
theorem dX10_odds_99 : decode cX10_odds 99 = .ok (.imul, 1) := by decide +kernel
theorem dX10_odds_100 : decode cX10_odds 100 = .ok (.istore 7, 2) := by decide +kernel
theorem dX10_odds_102 : decode cX10_odds 102 = .ok (.iinc 8 1, 3) := by decide +kernel
theorem dX10_odds_105 : decode cX10_odds 105 = .ok (.goto (-33), 3) := by decide +kernel
theorem dX10_odds_108 : decode cX10_odds 108 = .ok (.aload_n 0, 1) := by decide +kernel
theorem dX10_odds_109 : decode cX10_odds 109 = .ok (.iload 6, 2) := by decide +kernel
theorem dX10_odds_111 : decode cX10_odds 111 = .ok (.invokevirtual 194, 3) := by decide +kernel
theorem dX10_odds_114 : decode cX10_odds 114 = .ok (.pop, 1) := by decide +kernel
theorem dX10_odds_115 : decode cX10_odds 115 = .ok (.iload 4, 2) := by decide +kernel
theorem dX10_odds_117 : decode cX10_odds 117 = .ok (.aload_n 0, 1) := by decide +kernel
theorem dX10_odds_118 : decode cX10_odds 118 = .ok (.invokevirtual 180, 3) := by decide +kernel
theorem dX10_odds_121 : decode cX10_odds 121 = .ok (.ifCond .eq 8, 3) := by decide +kernel
theorem dX10_odds_124 : decode cX10_odds 124 = .ok (.iload 7, 2) := by decide +kernel
theorem dX10_odds_126 : decode cX10_odds 126 = .ok (.goto 4, 3) := by decide +kernel
theorem dX10_odds_129 : decode cX10_odds 129 = .ok (.iconst 0, 1) := by decide +kernel
theorem dX10_odds_130 : decode cX10_odds 130 = .ok (.iadd, 1) := by decide +kernel
theorem dX10_odds_131 : decode cX10_odds 131 = .ok (.istore 4, 2) := by decide +kernel
theorem dX10_odds_133 : decode cX10_odds 133 = .ok (.iinc 6 1, 3) := by decide +kernel
theorem dX10_odds_136 : decode cX10_odds 136 = .ok (.goto (-78), 3) := by decide +kernel
theorem dX10_odds_139 : decode cX10_odds 139 = .ok (.iload 4, 2) := by decide +kernel
theorem dX10_odds_141 : decode cX10_odds 141 = .ok (.istore 6, 2) := by decide +kernel
theorem dX10_odds_143 : decode cX10_odds 143 = .ok (.iload 5, 2) := by decide +kernel
theorem dX10_odds_145 : decode cX10_odds 145 = .ok (.istore 7, 2) := by decide +kernel
theorem dX10_odds_147 : decode cX10_odds 147 = .ok (.iload 7, 2) := by decide +kernel
theorem dX10_odds_149 : decode cX10_odds 149 = .ok (.ifCond .eq 21, 3) := by decide +kernel
theorem dX10_odds_152 : decode cX10_odds 152 = .ok (.iload 6, 2) := by decide +kernel
theorem dX10_odds_154 : decode cX10_odds 154 = .ok (.iload 7, 2) := by decide +kernel
theorem dX10_odds_156 : decode cX10_odds 156 = .ok (.irem, 1) := by decide +kernel
theorem dX10_odds_157 : decode cX10_odds 157 = .ok (.istore 8, 2) := by decide +kernel
theorem dX10_odds_159 : decode cX10_odds 159 = .ok (.iload 7, 2) := by decide +kernel
theorem dX10_odds_161 : decode cX10_odds 161 = .ok (.istore 6, 2) := by decide +kernel
theorem dX10_odds_163 : decode cX10_odds 163 = .ok (.iload 8, 2) := by decide +kernel
theorem dX10_odds_165 : decode cX10_odds 165 = .ok (.istore 7, 2) := by decide +kernel
theorem dX10_odds_167 : decode cX10_odds 167 = .ok (.goto (-20), 3) := by decide +kernel
theorem dX10_odds_170 : decode cX10_odds 170 = .ok (.iload_n 2, 1) := by decide +kernel
theorem dX10_odds_171 : decode cX10_odds 171 = .ok (.ifCond .ne 11, 3) := by decide +kernel
theorem dX10_odds_174 : decode cX10_odds 174 = .ok (.iload 4, 2) := by decide +kernel
theorem dX10_odds_176 : decode cX10_odds 176 = .ok (.iload 6, 2) := by decide +kernel
theorem dX10_odds_178 : decode cX10_odds 178 = .ok (.idiv, 1) := by decide +kernel
theorem dX10_odds_179 : decode cX10_odds 179 = .ok (.goto 8, 3) := by decide +kernel
theorem dX10_odds_182 : decode cX10_odds 182 = .ok (.iload 5, 2) := by decide +kernel
theorem dX10_odds_184 : decode cX10_odds 184 = .ok (.iload 6, 2) := by decide +kernel
theorem dX10_odds_186 : decode cX10_odds 186 = .ok (.idiv, 1) := by decide +kernel
theorem dX10_odds_187 : decode cX10_odds 187 = .ok (.ireturn, 1) := by decide +kernel
theorem dX10_mark_0 : decode cX10_mark 0 = .ok (.iload_n 1, 1) := by decide +kernel
theorem dX10_mark_1 : decode cX10_mark 1 = .ok (.iconst 0, 1) := by decide +kernel
theorem dX10_mark_2 : decode cX10_mark 2 = .ok (.iconst 5, 1) := by decide +kernel
theorem dX10_mark_3 : decode cX10_mark 3 = .ok (.invokestatic 75, 3) := by decide +kernel
theorem dX10_mark_6 : decode cX10_mark 6 = .ok (.ifCond .eq 11, 3) := by decide +kernel
theorem dX10_mark_9 : decode cX10_mark 9 = .ok (.aload_n 0, 1) := by decide +kernel
theorem dX10_mark_10 : decode cX10_mark 10 = .ok (.iload_n 2, 1) := by decide +kernel
theorem dX10_mark_11 : decode cX10_mark 11 = .ok (.invokevirtual 130, 3) := by decide +kernel
theorem dX10_mark_14 : decode cX10_mark 14 = .ok (.ifCond .ne 6, 3) := by decide +kernel
theorem dX10_mark_17 : decode cX10_mark 17 = .ok (.ldc 197, 2) := by decide +kernel
theorem dX10_mark_19 : decode cX10_mark 19 = .ok (.ireturn, 1) := by decide +kernel
theorem dX10_mark_20 : decode cX10_mark 20 = .ok (.aload_n 0, 1) := by decide +kernel
theorem dX10_mark_21 : decode cX10_mark 21 = .ok (.getfield 38, 3) := by decide +kernel
theorem dX10_mark_24 : decode cX10_mark 24 = .ok (.iconst 5, 1) := by decide +kernel
theorem dX10_mark_25 : decode cX10_mark 25 = .ok (.iload_n 2, 1) := by decide +kernel
theorem dX10_mark_26 : decode cX10_mark 26 = .ok (.iadd, 1) := by decide +kernel
theorem dX10_mark_27 : decode cX10_mark 27 = .ok (.iaload, 1) := by decide +kernel
theorem dX10_mark_28 : decode cX10_mark 28 = .ok (.invokestatic 150, 3) := by decide +kernel
theorem dX10_mark_31 : decode cX10_mark 31 = .ok (.istore_n 3, 1) := by decide +kernel
theorem dX10_mark_32 : decode cX10_mark 32 = .ok (.aload_n 0, 1) := by decide +kernel
theorem dX10_mark_33 : decode cX10_mark 33 = .ok (.getfield 23, 3) := by decide +kernel
theorem dX10_mark_36 : decode cX10_mark 36 = .ok (.iload_n 2, 1) := by decide +kernel
theorem dX10_mark_37 : decode cX10_mark 37 = .ok (.iaload, 1) := by decide +kernel
theorem dX10_mark_38 : decode cX10_mark 38 = .ok (.aload_n 0, 1) := by decide +kernel
theorem dX10_mark_39 : decode cX10_mark 39 = .ok (.getfield 20, 3) := by decide +kernel
theorem dX10_mark_42 : decode cX10_mark 42 = .ok (.iconst 2, 1) := by decide +kernel
theorem dX10_mark_43 : decode cX10_mark 43 = .ok (.iload_n 2, 1) := by decide +kernel
theorem dX10_mark_44 : decode cX10_mark 44 = .ok (.imul, 1) := by decide +kernel
theorem dX10_mark_45 : decode cX10_mark 45 = .ok (.iconst 1, 1) := by decide +kernel
theorem dX10_mark_46 : decode cX10_mark 46 = .ok (.iadd, 1) := by decide +kernel
theorem dX10_mark_47 : decode cX10_mark 47 = .ok (.iaload, 1) := by decide +kernel
theorem dX10_mark_48 : decode cX10_mark 48 = .ok (.isub, 1) := by decide +kernel
theorem dX10_mark_49 : decode cX10_mark 49 = .ok (.istore 4, 2) := by decide +kernel
theorem dX10_mark_51 : decode cX10_mark 51 = .ok (.iload_n 1, 1) := by decide +kernel
theorem dX10_mark_52 : decode cX10_mark 52 = .ok (.tableswitch 134 0 4 #[36, 53, 74, 89, 112], 36) := by decide +kernel
theorem dX10_mark_88 : decode cX10_mark 88 = .ok (.aload_n 0, 1) := by decide +kernel
theorem dX10_mark_89 : decode cX10_mark 89 = .ok (.dup, 1) := by decide +kernel
theorem dX10_mark_90 : decode cX10_mark 90 = .ok (.getfield 198, 3) := by decide +kernel
theorem dX10_mark_93 : decode cX10_mark 93 = .ok (.lconst 1, 1) := by decide +kernel
theorem dX10_mark_94 : decode cX10_mark 94 = .ok (.ladd, 1) := by decide +kernel
theorem dX10_mark_95 : decode cX10_mark 95 = .ok (.putfield 198, 3) := by decide +kernel
theorem dX10_mark_98 : decode cX10_mark 98 = .ok (.aload_n 0, 1) := by decide +kernel
theorem dX10_mark_99 : decode cX10_mark 99 = .ok (.getfield 23, 3) := by decide +kernel
theorem dX10_mark_102 : decode cX10_mark 102 = .ok (.iload_n 2, 1) := by decide +kernel
theorem dX10_mark_103 : decode cX10_mark 103 = .ok (.iaload, 1) := by decide +kernel
theorem dX10_mark_104 : decode cX10_mark 104 = .ok (.ireturn, 1) := by decide +kernel
theorem dX10_mark_105 : decode cX10_mark 105 = .ok (.aload_n 0, 1) := by decide +kernel
theorem dX10_mark_106 : decode cX10_mark 106 = .ok (.dup, 1) := by decide +kernel
theorem dX10_mark_107 : decode cX10_mark 107 = .ok (.getfield 198, 3) := by decide +kernel
theorem dX10_mark_110 : decode cX10_mark 110 = .ok (.ldc2_w 202, 3) := by decide +kernel
theorem dX10_mark_113 : decode cX10_mark 113 = .ok (.ladd, 1) := by decide +kernel
theorem dX10_mark_114 : decode cX10_mark 114 = .ok (.putfield 198, 3) := by decide +kernel
theorem dX10_mark_117 : decode cX10_mark 117 = .ok (.aload_n 0, 1) := by decide +kernel
theorem dX10_mark_118 : decode cX10_mark 118 = .ok (.getfield 23, 3) := by decide +kernel
theorem dX10_mark_121 : decode cX10_mark 121 = .ok (.iload_n 2, 1) := by decide +kernel
theorem dX10_mark_122 : decode cX10_mark 122 = .ok (.iaload, 1) := by decide +kernel
theorem dX10_mark_123 : decode cX10_mark 123 = .ok (.iload_n 3, 1) := by decide +kernel
theorem dX10_mark_124 : decode cX10_mark 124 = .ok (.iadd, 1) := by decide +kernel
theorem dX10_mark_125 : decode cX10_mark 125 = .ok (.ireturn, 1) := by decide +kernel
theorem dX10_mark_126 : decode cX10_mark 126 = .ok (.aload_n 0, 1) := by decide +kernel
theorem dX10_mark_127 : decode cX10_mark 127 = .ok (.dup, 1) := by decide +kernel
theorem dX10_mark_128 : decode cX10_mark 128 = .ok (.getfield 198, 3) := by decide +kernel
theorem dX10_mark_131 : decode cX10_mark 131 = .ok (.ldc2_w 204, 3) := by decide +kernel
theorem dX10_mark_134 : decode cX10_mark 134 = .ok (.ladd, 1) := by decide +kernel
theorem dX10_mark_135 : decode cX10_mark 135 = .ok (.putfield 198, 3) := by decide +kernel
theorem dX10_mark_138 : decode cX10_mark 138 = .ok (.iload 4, 2) := by decide +kernel
theorem dX10_mark_140 : decode cX10_mark 140 = .ok (.ireturn, 1) := by decide +kernel
theorem dX10_mark_141 : decode cX10_mark 141 = .ok (.aload_n 0, 1) := by decide +kernel
theorem dX10_mark_142 : decode cX10_mark 142 = .ok (.dup, 1) := by decide +kernel
theorem dX10_mark_143 : decode cX10_mark 143 = .ok (.getfield 198, 3) := by decide +kernel
theorem dX10_mark_146 : decode cX10_mark 146 = .ok (.ldc2_w 206, 3) := by decide +kernel
theorem dX10_mark_149 : decode cX10_mark 149 = .ok (.ladd, 1) := by decide +kernel
theorem dX10_mark_150 : decode cX10_mark 150 = .ok (.putfield 198, 3) := by decide +kernel
theorem dX10_mark_153 : decode cX10_mark 153 = .ok (.iconst 2, 1) := by decide +kernel
theorem dX10_mark_154 : decode cX10_mark 154 = .ok (.aload_n 0, 1) := by decide +kernel
theorem dX10_mark_155 : decode cX10_mark 155 = .ok (.getfield 23, 3) := by decide +kernel
theorem dX10_mark_158 : decode cX10_mark 158 = .ok (.iload_n 2, 1) := by decide +kernel
theorem dX10_mark_159 : decode cX10_mark 159 = .ok (.iaload, 1) := by decide +kernel
theorem dX10_mark_160 : decode cX10_mark 160 = .ok (.iload_n 3, 1) := by decide +kernel
theorem dX10_mark_161 : decode cX10_mark 161 = .ok (.iadd, 1) := by decide +kernel
theorem dX10_mark_162 : decode cX10_mark 162 = .ok (.imul, 1) := by decide +kernel
theorem dX10_mark_163 : decode cX10_mark 163 = .ok (.ireturn, 1) := by decide +kernel
theorem dX10_mark_164 : decode cX10_mark 164 = .ok (.aload_n 0, 1) := by decide +kernel
theorem dX10_mark_165 : decode cX10_mark 165 = .ok (.dup, 1) := by decide +kernel
theorem dX10_mark_166 : decode cX10_mark 166 = .ok (.getfield 198, 3) := by decide +kernel
theorem dX10_mark_169 : decode cX10_mark 169 = .ok (.ldc2_w 208, 3) := by decide +kernel
theorem dX10_mark_172 : decode cX10_mark 172 = .ok (.ladd, 1) := by decide +kernel
theorem dX10_mark_173 : decode cX10_mark 173 = .ok (.putfield 198, 3) := by decide +kernel
theorem dX10_mark_176 : decode cX10_mark 176 = .ok (.iload 4, 2) := by decide +kernel
theorem dX10_mark_178 : decode cX10_mark 178 = .ok (.aload_n 0, 1) := by decide +kernel
theorem dX10_mark_179 : decode cX10_mark 179 = .ok (.getfield 38, 3) := by decide +kernel
theorem dX10_mark_182 : decode cX10_mark 182 = .ok (.iconst 2, 1) := by decide +kernel
theorem dX10_mark_183 : decode cX10_mark 183 = .ok (.iaload, 1) := by decide +kernel
theorem dX10_mark_184 : decode cX10_mark 184 = .ok (.iadd, 1) := by decide +kernel
theorem dX10_mark_185 : decode cX10_mark 185 = .ok (.ireturn, 1) := by decide +kernel
theorem dX10_mark_186 : decode cX10_mark 186 = .ok (.aload_n 0, 1) := by decide +kernel
theorem dX10_mark_187 : decode cX10_mark 187 = .ok (.dup, 1) := by decide +kernel
theorem dX10_mark_188 : decode cX10_mark 188 = .ok (.getfield 198, 3) := by decide +kernel
theorem dX10_mark_191 : decode cX10_mark 191 = .ok (.ldc2_w 210, 3) := by decide +kernel
theorem dX10_mark_194 : decode cX10_mark 194 = .ok (.ladd, 1) := by decide +kernel
theorem dX10_mark_195 : decode cX10_mark 195 = .ok (.putfield 198, 3) := by decide +kernel
theorem dX10_mark_198 : decode cX10_mark 198 = .ok (.aload_n 0, 1) := by decide +kernel
theorem dX10_mark_199 : decode cX10_mark 199 = .ok (.getfield 23, 3) := by decide +kernel
theorem dX10_mark_202 : decode cX10_mark 202 = .ok (.iload_n 2, 1) := by decide +kernel
theorem dX10_mark_203 : decode cX10_mark 203 = .ok (.iaload, 1) := by decide +kernel
theorem dX10_mark_204 : decode cX10_mark 204 = .ok (.aload_n 0, 1) := by decide +kernel
theorem dX10_mark_205 : decode cX10_mark 205 = .ok (.getfield 38, 3) := by decide +kernel
theorem dX10_mark_208 : decode cX10_mark 208 = .ok (.iconst 1, 1) := by decide +kernel
theorem dX10_mark_209 : decode cX10_mark 209 = .ok (.iaload, 1) := by decide +kernel
theorem dX10_mark_210 : decode cX10_mark 210 = .ok (.iadd, 1) := by decide +kernel
theorem dX10_mark_211 : decode cX10_mark 211 = .ok (.ireturn, 1) := by decide +kernel
theorem dX10_keep_0 : decode cX10_keep 0 = .ok (.iload_n 1, 1) := by decide +kernel
theorem dX10_keep_1 : decode cX10_keep 1 = .ok (.iconst 0, 1) := by decide +kernel
theorem dX10_keep_2 : decode cX10_keep 2 = .ok (.iconst 1, 1) := by decide +kernel
theorem dX10_keep_3 : decode cX10_keep 3 = .ok (.invokestatic 75, 3) := by decide +kernel
theorem dX10_keep_6 : decode cX10_keep 6 = .ok (.ifCond .ne 5, 3) := by decide +kernel
theorem dX10_keep_9 : decode cX10_keep 9 = .ok (.iconst (-1), 1) := by decide +kernel
theorem dX10_keep_10 : decode cX10_keep 10 = .ok (.ireturn, 1) := by decide +kernel
theorem dX10_keep_11 : decode cX10_keep 11 = .ok (.iconst 0, 1) := by decide +kernel
theorem dX10_keep_12 : decode cX10_keep 12 = .ok (.istore_n 2, 1) := by decide +kernel
theorem dX10_keep_13 : decode cX10_keep 13 = .ok (.iload_n 2, 1) := by decide +kernel
theorem dX10_keep_14 : decode cX10_keep 14 = .ok (.sipush 188, 3) := by decide +kernel
theorem dX10_keep_17 : decode cX10_keep 17 = .ok (.if_icmp .ge 29, 3) := by decide +kernel
theorem dX10_keep_20 : decode cX10_keep 20 = .ok (.aload_n 0, 1) := by decide +kernel
theorem dX10_keep_21 : decode cX10_keep 21 = .ok (.getfield 38, 3) := by decide +kernel
theorem dX10_keep_24 : decode cX10_keep 24 = .ok (.sipush 188, 3) := by decide +kernel
theorem dX10_keep_27 : decode cX10_keep 27 = .ok (.iconst 1, 1) := by decide +kernel
theorem dX10_keep_28 : decode cX10_keep 28 = .ok (.iload_n 1, 1) := by decide +kernel
theorem dX10_keep_29 : decode cX10_keep 29 = .ok (.iadd, 1) := by decide +kernel
theorem dX10_keep_30 : decode cX10_keep 30 = .ok (.imul, 1) := by decide +kernel
theorem dX10_keep_31 : decode cX10_keep 31 = .ok (.iload_n 2, 1) := by decide +kernel
theorem dX10_keep_32 : decode cX10_keep 32 = .ok (.iadd, 1) := by decide +kernel
theorem dX10_keep_33 : decode cX10_keep 33 = .ok (.aload_n 0, 1) := by decide +kernel
theorem dX10_keep_34 : decode cX10_keep 34 = .ok (.getfield 38, 3) := by decide +kernel
theorem dX10_keep_37 : decode cX10_keep 37 = .ok (.iload_n 2, 1) := by decide +kernel
theorem dX10_keep_38 : decode cX10_keep 38 = .ok (.iaload, 1) := by decide +kernel
theorem dX10_keep_39 : decode cX10_keep 39 = .ok (.iastore, 1) := by decide +kernel
theorem dX10_keep_40 : decode cX10_keep 40 = .ok (.iinc 2 1, 3) := by decide +kernel
theorem dX10_keep_43 : decode cX10_keep 43 = .ok (.goto (-30), 3) := by decide +kernel
theorem dX10_keep_46 : decode cX10_keep 46 = .ok (.aload_n 0, 1) := by decide +kernel
theorem dX10_keep_47 : decode cX10_keep 47 = .ok (.getfield 41, 3) := by decide +kernel
theorem dX10_keep_50 : decode cX10_keep 50 = .ok (.iload_n 1, 1) := by decide +kernel
theorem dX10_keep_51 : decode cX10_keep 51 = .ok (.iconst 1, 1) := by decide +kernel
theorem dX10_keep_52 : decode cX10_keep 52 = .ok (.bastore, 1) := by decide +kernel
theorem dX10_keep_53 : decode cX10_keep 53 = .ok (.aload_n 0, 1) := by decide +kernel
theorem dX10_keep_54 : decode cX10_keep 54 = .ok (.getfield 38, 3) := by decide +kernel
theorem dX10_keep_57 : decode cX10_keep 57 = .ok (.iconst 1, 1) := by decide +kernel
theorem dX10_keep_58 : decode cX10_keep 58 = .ok (.iaload, 1) := by decide +kernel
theorem dX10_keep_59 : decode cX10_keep 59 = .ok (.ireturn, 1) := by decide +kernel
theorem dX10_back_0 : decode cX10_back 0 = .ok (.iload_n 1, 1) := by decide +kernel
theorem dX10_back_1 : decode cX10_back 1 = .ok (.iconst 0, 1) := by decide +kernel
theorem dX10_back_2 : decode cX10_back 2 = .ok (.iconst 1, 1) := by decide +kernel
theorem dX10_back_3 : decode cX10_back 3 = .ok (.invokestatic 75, 3) := by decide +kernel
theorem dX10_back_6 : decode cX10_back 6 = .ok (.ifCond .ne 5, 3) := by decide +kernel
theorem dX10_back_9 : decode cX10_back 9 = .ok (.iconst (-1), 1) := by decide +kernel
theorem dX10_back_10 : decode cX10_back 10 = .ok (.ireturn, 1) := by decide +kernel
theorem dX10_back_11 : decode cX10_back 11 = .ok (.aload_n 0, 1) := by decide +kernel
theorem dX10_back_12 : decode cX10_back 12 = .ok (.getfield 41, 3) := by decide +kernel
theorem dX10_back_15 : decode cX10_back 15 = .ok (.iload_n 1, 1) := by decide +kernel
theorem dX10_back_16 : decode cX10_back 16 = .ok (.baload, 1) := by decide +kernel
theorem dX10_back_17 : decode cX10_back 17 = .ok (.ifCond .ne 6, 3) := by decide +kernel
theorem dX10_back_20 : decode cX10_back 20 = .ok (.bipush (-2), 2) := by decide +kernel
theorem dX10_back_22 : decode cX10_back 22 = .ok (.ireturn, 1) := by decide +kernel
theorem dX10_back_23 : decode cX10_back 23 = .ok (.iconst 0, 1) := by decide +kernel
theorem dX10_back_24 : decode cX10_back 24 = .ok (.istore_n 2, 1) := by decide +kernel
theorem dX10_back_25 : decode cX10_back 25 = .ok (.iload_n 2, 1) := by decide +kernel
theorem dX10_back_26 : decode cX10_back 26 = .ok (.sipush 188, 3) := by decide +kernel
theorem dX10_back_29 : decode cX10_back 29 = .ok (.if_icmp .ge 29, 3) := by decide +kernel
theorem dX10_back_32 : decode cX10_back 32 = .ok (.aload_n 0, 1) := by decide +kernel
theorem dX10_back_33 : decode cX10_back 33 = .ok (.getfield 38, 3) := by decide +kernel
theorem dX10_back_36 : decode cX10_back 36 = .ok (.iload_n 2, 1) := by decide +kernel
theorem dX10_back_37 : decode cX10_back 37 = .ok (.aload_n 0, 1) := by decide +kernel
theorem dX10_back_38 : decode cX10_back 38 = .ok (.getfield 38, 3) := by decide +kernel
theorem dX10_back_41 : decode cX10_back 41 = .ok (.sipush 188, 3) := by decide +kernel
theorem dX10_back_44 : decode cX10_back 44 = .ok (.iconst 1, 1) := by decide +kernel
theorem dX10_back_45 : decode cX10_back 45 = .ok (.iload_n 1, 1) := by decide +kernel
theorem dX10_back_46 : decode cX10_back 46 = .ok (.iadd, 1) := by decide +kernel
theorem dX10_back_47 : decode cX10_back 47 = .ok (.imul, 1) := by decide +kernel
theorem dX10_back_48 : decode cX10_back 48 = .ok (.iload_n 2, 1) := by decide +kernel
theorem dX10_back_49 : decode cX10_back 49 = .ok (.iadd, 1) := by decide +kernel
theorem dX10_back_50 : decode cX10_back 50 = .ok (.iaload, 1) := by decide +kernel
theorem dX10_back_51 : decode cX10_back 51 = .ok (.iastore, 1) := by decide +kernel
theorem dX10_back_52 : decode cX10_back 52 = .ok (.iinc 2 1, 3) := by decide +kernel
theorem dX10_back_55 : decode cX10_back 55 = .ok (.goto (-30), 3) := by decide +kernel
theorem dX10_back_58 : decode cX10_back 58 = .ok (.aload_n 0, 1) := by decide +kernel
theorem dX10_back_59 : decode cX10_back 59 = .ok (.getfield 38, 3) := by decide +kernel
theorem dX10_back_62 : decode cX10_back 62 = .ok (.iconst 1, 1) := by decide +kernel
theorem dX10_back_63 : decode cX10_back 63 = .ok (.iaload, 1) := by decide +kernel
theorem dX10_back_64 : decode cX10_back 64 = .ok (.ireturn, 1) := by decide +kernel
theorem dX10_count_0 : decode cX10_count 0 = .ok (.iload_n 1, 1) := by decide +kernel
theorem dX10_count_1 : decode cX10_count 1 = .ok (.tableswitch 87 0 6 #[43, 50, 57, 64, 69, 74, 82], 43) := by decide +kernel
theorem dX10_count_44 : decode cX10_count 44 = .ok (.aload_n 0, 1) := by decide +kernel
theorem dX10_count_45 : decode cX10_count 45 = .ok (.getfield 13, 3) := by decide +kernel
theorem dX10_count_48 : decode cX10_count 48 = .ok (.iconst 0, 1) := by decide +kernel
theorem dX10_count_49 : decode cX10_count 49 = .ok (.iaload, 1) := by decide +kernel
theorem dX10_count_50 : decode cX10_count 50 = .ok (.ireturn, 1) := by decide +kernel
theorem dX10_count_51 : decode cX10_count 51 = .ok (.aload_n 0, 1) := by decide +kernel
theorem dX10_count_52 : decode cX10_count 52 = .ok (.getfield 17, 3) := by decide +kernel
theorem dX10_count_55 : decode cX10_count 55 = .ok (.iconst 0, 1) := by decide +kernel
theorem dX10_count_56 : decode cX10_count 56 = .ok (.iaload, 1) := by decide +kernel
theorem dX10_count_57 : decode cX10_count 57 = .ok (.ireturn, 1) := by decide +kernel
theorem dX10_count_58 : decode cX10_count 58 = .ok (.aload_n 0, 1) := by decide +kernel
theorem dX10_count_59 : decode cX10_count 59 = .ok (.getfield 26, 3) := by decide +kernel
theorem dX10_count_62 : decode cX10_count 62 = .ok (.iconst 0, 1) := by decide +kernel
theorem dX10_count_63 : decode cX10_count 63 = .ok (.iaload, 1) := by decide +kernel
theorem dX10_count_64 : decode cX10_count 64 = .ok (.ireturn, 1) := by decide +kernel
theorem dX10_count_65 : decode cX10_count 65 = .ok (.aload_n 0, 1) := by decide +kernel
theorem dX10_count_66 : decode cX10_count 66 = .ok (.getfield 116, 3) := by decide +kernel
theorem dX10_count_69 : decode cX10_count 69 = .ok (.ireturn, 1) := by decide +kernel
theorem dX10_count_70 : decode cX10_count 70 = .ok (.aload_n 0, 1) := by decide +kernel
theorem dX10_count_71 : decode cX10_count 71 = .ok (.getfield 119, 3) := by decide +kernel
theorem dX10_count_74 : decode cX10_count 74 = .ok (.ireturn, 1) := by decide +kernel
theorem dX10_count_75 : decode cX10_count 75 = .ok (.aload_n 0, 1) := by decide +kernel
theorem dX10_count_76 : decode cX10_count 76 = .ok (.getfield 38, 3) := by decide +kernel
theorem dX10_count_79 : decode cX10_count 79 = .ok (.bipush 17, 2) := by decide +kernel
theorem dX10_count_81 : decode cX10_count 81 = .ok (.iaload, 1) := by decide +kernel
theorem dX10_count_82 : decode cX10_count 82 = .ok (.ireturn, 1) := by decide +kernel
theorem dX10_count_83 : decode cX10_count 83 = .ok (.aload_n 0, 1) := by decide +kernel
theorem dX10_count_84 : decode cX10_count 84 = .ok (.getfield 79, 3) := by decide +kernel
theorem dX10_count_87 : decode cX10_count 87 = .ok (.ireturn, 1) := by decide +kernel
theorem dX10_count_88 : decode cX10_count 88 = .ok (.iconst (-1), 1) := by decide +kernel
theorem dX10_count_89 : decode cX10_count 89 = .ok (.ireturn, 1) := by decide +kernel
theorem dX10_trace_0 : decode cX10_trace 0 = .ok (.aload_n 0, 1) := by decide +kernel
theorem dX10_trace_1 : decode cX10_trace 1 = .ok (.getfield 198, 3) := by decide +kernel
theorem dX10_trace_4 : decode cX10_trace 4 = .ok (.lreturn, 1) := by decide +kernel
