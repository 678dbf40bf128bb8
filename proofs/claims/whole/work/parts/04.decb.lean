theorem dX10_init_0 : decode cX10_init 0 = .ok (.aload_n 0, 1) := by decide +kernel
theorem dX10_init_1 : decode cX10_init 1 = .ok (.invokespecial 1, 3) := by decide +kernel
theorem dX10_init_4 : decode cX10_init 4 = .ok (.aload_n 0, 1) := by decide +kernel
theorem dX10_init_5 : decode cX10_init 5 = .ok (.sipush 400, 3) := by decide +kernel
theorem dX10_init_8 : decode cX10_init 8 = .ok (.newarray .byte, 2) := by decide +kernel
theorem dX10_init_10 : decode cX10_init 10 = .ok (.putfield 7, 3) := by decide +kernel
theorem dX10_init_13 : decode cX10_init 13 = .ok (.aload_n 0, 1) := by decide +kernel
theorem dX10_init_14 : decode cX10_init 14 = .ok (.sipush 2400, 3) := by decide +kernel
theorem dX10_init_17 : decode cX10_init 17 = .ok (.newarray .int, 2) := by decide +kernel
theorem dX10_init_19 : decode cX10_init 19 = .ok (.putfield 13, 3) := by decide +kernel
theorem dX10_init_22 : decode cX10_init 22 = .ok (.aload_n 0, 1) := by decide +kernel
theorem dX10_init_23 : decode cX10_init 23 = .ok (.bipush 7, 2) := by decide +kernel
theorem dX10_init_25 : decode cX10_init 25 = .ok (.newarray .int, 2) := by decide +kernel
theorem dX10_init_27 : decode cX10_init 27 = .ok (.putfield 17, 3) := by decide +kernel
theorem dX10_init_30 : decode cX10_init 30 = .ok (.aload_n 0, 1) := by decide +kernel
theorem dX10_init_31 : decode cX10_init 31 = .ok (.sipush 288, 3) := by decide +kernel
theorem dX10_init_34 : decode cX10_init 34 = .ok (.newarray .int, 2) := by decide +kernel
theorem dX10_init_36 : decode cX10_init 36 = .ok (.putfield 20, 3) := by decide +kernel
theorem dX10_init_39 : decode cX10_init 39 = .ok (.aload_n 0, 1) := by decide +kernel
theorem dX10_init_40 : decode cX10_init 40 = .ok (.bipush 6, 2) := by decide +kernel
theorem dX10_init_42 : decode cX10_init 42 = .ok (.newarray .int, 2) := by decide +kernel
theorem dX10_init_44 : decode cX10_init 44 = .ok (.putfield 23, 3) := by decide +kernel
theorem dX10_init_47 : decode cX10_init 47 = .ok (.aload_n 0, 1) := by decide +kernel
theorem dX10_init_48 : decode cX10_init 48 = .ok (.sipush 160, 3) := by decide +kernel
theorem dX10_init_51 : decode cX10_init 51 = .ok (.newarray .int, 2) := by decide +kernel
theorem dX10_init_53 : decode cX10_init 53 = .ok (.putfield 26, 3) := by decide +kernel
theorem dX10_init_56 : decode cX10_init 56 = .ok (.aload_n 0, 1) := by decide +kernel
theorem dX10_init_57 : decode cX10_init 57 = .ok (.sipush 400, 3) := by decide +kernel
theorem dX10_init_60 : decode cX10_init 60 = .ok (.newarray .int, 2) := by decide +kernel
theorem dX10_init_62 : decode cX10_init 62 = .ok (.putfield 29, 3) := by decide +kernel
theorem dX10_init_65 : decode cX10_init 65 = .ok (.aload_n 0, 1) := by decide +kernel
theorem dX10_init_66 : decode cX10_init 66 = .ok (.bipush 64, 2) := by decide +kernel
theorem dX10_init_68 : decode cX10_init 68 = .ok (.newarray .long, 2) := by decide +kernel
theorem dX10_init_70 : decode cX10_init 70 = .ok (.putfield 32, 3) := by decide +kernel
theorem dX10_init_73 : decode cX10_init 73 = .ok (.aload_n 0, 1) := by decide +kernel
theorem dX10_init_74 : decode cX10_init 74 = .ok (.bipush 12, 2) := by decide +kernel
theorem dX10_init_76 : decode cX10_init 76 = .ok (.newarray .long, 2) := by decide +kernel
theorem dX10_init_78 : decode cX10_init 78 = .ok (.putfield 36, 3) := by decide +kernel
theorem dX10_init_81 : decode cX10_init 81 = .ok (.aload_n 0, 1) := by decide +kernel
theorem dX10_init_82 : decode cX10_init 82 = .ok (.sipush 160, 3) := by decide +kernel
theorem dX10_init_85 : decode cX10_init 85 = .ok (.newarray .int, 2) := by decide +kernel
theorem dX10_init_87 : decode cX10_init 87 = .ok (.putfield 39, 3) := by decide +kernel
theorem dX10_init_90 : decode cX10_init 90 = .ok (.aload_n 0, 1) := by decide +kernel
theorem dX10_init_91 : decode cX10_init 91 = .ok (.bipush 9, 2) := by decide +kernel
theorem dX10_init_93 : decode cX10_init 93 = .ok (.newarray .int, 2) := by decide +kernel
theorem dX10_init_95 : decode cX10_init 95 = .ok (.putfield 42, 3) := by decide +kernel
theorem dX10_init_98 : decode cX10_init 98 = .ok (.aload_n 0, 1) := by decide +kernel
theorem dX10_init_99 : decode cX10_init 99 = .ok (.bipush 8, 2) := by decide +kernel
theorem dX10_init_101 : decode cX10_init 101 = .ok (.newarray .int, 2) := by decide +kernel
theorem dX10_init_103 : decode cX10_init 103 = .ok (.putfield 45, 3) := by decide +kernel
theorem dX10_init_106 : decode cX10_init 106 = .ok (.aload_n 0, 1) := by decide +kernel
theorem dX10_init_107 : decode cX10_init 107 = .ok (.sipush 1880, 3) := by decide +kernel
theorem dX10_init_110 : decode cX10_init 110 = .ok (.newarray .int, 2) := by decide +kernel
theorem dX10_init_112 : decode cX10_init 112 = .ok (.putfield 48, 3) := by decide +kernel
theorem dX10_init_115 : decode cX10_init 115 = .ok (.aload_n 0, 1) := by decide +kernel
theorem dX10_init_116 : decode cX10_init 116 = .ok (.bipush 8, 2) := by decide +kernel
theorem dX10_init_118 : decode cX10_init 118 = .ok (.newarray .int, 2) := by decide +kernel
theorem dX10_init_120 : decode cX10_init 120 = .ok (.putfield 51, 3) := by decide +kernel
theorem dX10_init_123 : decode cX10_init 123 = .ok (.aload_n 0, 1) := by decide +kernel
theorem dX10_init_124 : decode cX10_init 124 = .ok (.bipush 8, 2) := by decide +kernel
theorem dX10_init_126 : decode cX10_init 126 = .ok (.newarray .int, 2) := by decide +kernel
theorem dX10_init_128 : decode cX10_init 128 = .ok (.putfield 54, 3) := by decide +kernel
theorem dX10_init_131 : decode cX10_init 131 = .ok (.aload_n 0, 1) := by decide +kernel
theorem dX10_init_132 : decode cX10_init 132 = .ok (.bipush 72, 2) := by decide +kernel
theorem dX10_init_134 : decode cX10_init 134 = .ok (.newarray .int, 2) := by decide +kernel
theorem dX10_init_136 : decode cX10_init 136 = .ok (.putfield 57, 3) := by decide +kernel
theorem dX10_init_139 : decode cX10_init 139 = .ok (.aload_n 0, 1) := by decide +kernel
theorem dX10_init_140 : decode cX10_init 140 = .ok (.iconst 2, 1) := by decide +kernel
theorem dX10_init_141 : decode cX10_init 141 = .ok (.newarray .int, 2) := by decide +kernel
theorem dX10_init_143 : decode cX10_init 143 = .ok (.putfield 60, 3) := by decide +kernel
theorem dX10_init_146 : decode cX10_init 146 = .ok (.aload_n 0, 1) := by decide +kernel
theorem dX10_init_147 : decode cX10_init 147 = .ok (.bipush 9, 2) := by decide +kernel
theorem dX10_init_149 : decode cX10_init 149 = .ok (.newarray .int, 2) := by decide +kernel
theorem dX10_init_151 : decode cX10_init 151 = .ok (.putfield 63, 3) := by decide +kernel
theorem dX10_init_154 : decode cX10_init 154 = .ok (.aload_n 0, 1) := by decide +kernel
theorem dX10_init_155 : decode cX10_init 155 = .ok (.bipush 94, 2) := by decide +kernel
theorem dX10_init_157 : decode cX10_init 157 = .ok (.newarray .int, 2) := by decide +kernel
theorem dX10_init_159 : decode cX10_init 159 = .ok (.putfield 66, 3) := by decide +kernel
theorem dX10_init_162 : decode cX10_init 162 = .ok (.aload_n 0, 1) := by decide +kernel
theorem dX10_init_163 : decode cX10_init 163 = .ok (.sipush 640, 3) := by decide +kernel
theorem dX10_init_166 : decode cX10_init 166 = .ok (.newarray .int, 2) := by decide +kernel
theorem dX10_init_168 : decode cX10_init 168 = .ok (.putfield 69, 3) := by decide +kernel
theorem dX10_init_171 : decode cX10_init 171 = .ok (.aload_n 0, 1) := by decide +kernel
theorem dX10_init_172 : decode cX10_init 172 = .ok (.iconst 4, 1) := by decide +kernel
theorem dX10_init_173 : decode cX10_init 173 = .ok (.newarray .int, 2) := by decide +kernel
theorem dX10_init_175 : decode cX10_init 175 = .ok (.putfield 72, 3) := by decide +kernel
theorem dX10_init_178 : decode cX10_init 178 = .ok (.aload_n 0, 1) := by decide +kernel
theorem dX10_init_179 : decode cX10_init 179 = .ok (.iconst 4, 1) := by decide +kernel
theorem dX10_init_180 : decode cX10_init 180 = .ok (.newarray .boolean, 2) := by decide +kernel
theorem dX10_init_182 : decode cX10_init 182 = .ok (.putfield 75, 3) := by decide +kernel
theorem dX10_init_185 : decode cX10_init 185 = .ok (.return_, 1) := by decide +kernel
theorem dX10_in_0 : decode cX10_in 0 = .ok (.lload_n 0, 1) := by decide +kernel
theorem dX10_in_1 : decode cX10_in 1 = .ok (.lload_n 2, 1) := by decide +kernel
theorem dX10_in_2 : decode cX10_in 2 = .ok (.lcmp, 1) := by decide +kernel
theorem dX10_in_3 : decode cX10_in 3 = .ok (.ifCond .lt 14, 3) := by decide +kernel
theorem dX10_in_6 : decode cX10_in 6 = .ok (.lload_n 0, 1) := by decide +kernel
theorem dX10_in_7 : decode cX10_in 7 = .ok (.lload 4, 2) := by decide +kernel
theorem dX10_in_9 : decode cX10_in 9 = .ok (.lcmp, 1) := by decide +kernel
theorem dX10_in_10 : decode cX10_in 10 = .ok (.ifCond .gt 7, 3) := by decide +kernel
theorem dX10_in_13 : decode cX10_in 13 = .ok (.iconst 1, 1) := by decide +kernel
theorem dX10_in_14 : decode cX10_in 14 = .ok (.goto 4, 3) := by decide +kernel
theorem dX10_in_17 : decode cX10_in 17 = .ok (.iconst 0, 1) := by decide +kernel
theorem dX10_in_18 : decode cX10_in 18 = .ok (.ireturn, 1) := by decide +kernel
theorem dX10_isOf_0 : decode cX10_isOf 0 = .ok (.iload_n 0, 1) := by decide +kernel
theorem dX10_isOf_1 : decode cX10_isOf 1 = .ok (.iload_n 1, 1) := by decide +kernel
theorem dX10_isOf_2 : decode cX10_isOf 2 = .ok (.ishr, 1) := by decide +kernel
theorem dX10_isOf_3 : decode cX10_isOf 3 = .ok (.iconst 1, 1) := by decide +kernel
theorem dX10_isOf_4 : decode cX10_isOf 4 = .ok (.iand, 1) := by decide +kernel
theorem dX10_isOf_5 : decode cX10_isOf 5 = .ok (.iconst 1, 1) := by decide +kernel
theorem dX10_isOf_6 : decode cX10_isOf 6 = .ok (.if_icmp .ne 7, 3) := by decide +kernel
theorem dX10_isOf_9 : decode cX10_isOf 9 = .ok (.iconst 1, 1) := by decide +kernel
theorem dX10_isOf_10 : decode cX10_isOf 10 = .ok (.goto 4, 3) := by decide +kernel
theorem dX10_isOf_13 : decode cX10_isOf 13 = .ok (.iconst 0, 1) := by decide +kernel
theorem dX10_isOf_14 : decode cX10_isOf 14 = .ok (.ireturn, 1) := by decide +kernel
theorem dX10_bits_0 : decode cX10_bits 0 = .ok (.iconst 0, 1) := by decide +kernel
theorem dX10_bits_1 : decode cX10_bits 1 = .ok (.istore_n 1, 1) := by decide +kernel
theorem dX10_bits_2 : decode cX10_bits 2 = .ok (.iload_n 0, 1) := by decide +kernel
theorem dX10_bits_3 : decode cX10_bits 3 = .ok (.istore_n 2, 1) := by decide +kernel
theorem dX10_bits_4 : decode cX10_bits 4 = .ok (.iload_n 2, 1) := by decide +kernel
theorem dX10_bits_5 : decode cX10_bits 5 = .ok (.ifCond .eq 15, 3) := by decide +kernel
theorem dX10_bits_8 : decode cX10_bits 8 = .ok (.iinc 1 1, 3) := by decide +kernel
theorem dX10_bits_11 : decode cX10_bits 11 = .ok (.iload_n 2, 1) := by decide +kernel
theorem dX10_bits_12 : decode cX10_bits 12 = .ok (.iload_n 2, 1) := by decide +kernel
theorem dX10_bits_13 : decode cX10_bits 13 = .ok (.iconst 1, 1) := by decide +kernel
theorem dX10_bits_14 : decode cX10_bits 14 = .ok (.isub, 1) := by decide +kernel
theorem dX10_bits_15 : decode cX10_bits 15 = .ok (.iand, 1) := by decide +kernel
theorem dX10_bits_16 : decode cX10_bits 16 = .ok (.istore_n 2, 1) := by decide +kernel
theorem dX10_bits_17 : decode cX10_bits 17 = .ok (.goto (-13), 3) := by decide +kernel
theorem dX10_bits_20 : decode cX10_bits 20 = .ok (.iload_n 1, 1) := by decide +kernel
theorem dX10_bits_21 : decode cX10_bits 21 = .ok (.ireturn, 1) := by decide +kernel
theorem dX10_four_0 : decode cX10_four 0 = .ok (.bipush 24, 2) := by decide +kernel
theorem dX10_four_2 : decode cX10_four 2 = .ok (.istore_n 2, 1) := by decide +kernel
theorem dX10_four_3 : decode cX10_four 3 = .ok (.iload_n 2, 1) := by decide +kernel
theorem dX10_four_4 : decode cX10_four 4 = .ok (.ifCond .lt 32, 3) := by decide +kernel
theorem dX10_four_7 : decode cX10_four 7 = .ok (.aload_n 0, 1) := by decide +kernel
theorem dX10_four_8 : decode cX10_four 8 = .ok (.getfield 7, 3) := by decide +kernel
theorem dX10_four_11 : decode cX10_four 11 = .ok (.aload_n 0, 1) := by decide +kernel
theorem dX10_four_12 : decode cX10_four 12 = .ok (.getfield 79, 3) := by decide +kernel
theorem dX10_four_15 : decode cX10_four 15 = .ok (.iload_n 1, 1) := by decide +kernel
theorem dX10_four_16 : decode cX10_four 16 = .ok (.iload_n 2, 1) := by decide +kernel
theorem dX10_four_17 : decode cX10_four 17 = .ok (.ishr, 1) := by decide +kernel
theorem dX10_four_18 : decode cX10_four 18 = .ok (.i2b, 1) := by decide +kernel
theorem dX10_four_19 : decode cX10_four 19 = .ok (.bastore, 1) := by decide +kernel
theorem dX10_four_20 : decode cX10_four 20 = .ok (.aload_n 0, 1) := by decide +kernel
theorem dX10_four_21 : decode cX10_four 21 = .ok (.dup, 1) := by decide +kernel
theorem dX10_four_22 : decode cX10_four 22 = .ok (.getfield 79, 3) := by decide +kernel
theorem dX10_four_25 : decode cX10_four 25 = .ok (.iconst 1, 1) := by decide +kernel
theorem dX10_four_26 : decode cX10_four 26 = .ok (.iadd, 1) := by decide +kernel
theorem dX10_four_27 : decode cX10_four 27 = .ok (.putfield 79, 3) := by decide +kernel
theorem dX10_four_30 : decode cX10_four 30 = .ok (.iinc 2 (-8), 3) := by decide +kernel
theorem dX10_four_33 : decode cX10_four 33 = .ok (.goto (-30), 3) := by decide +kernel
theorem dX10_four_36 : decode cX10_four 36 = .ok (.return_, 1) := by decide +kernel
theorem dX10_feed_0 : decode cX10_feed 0 = .ok (.aload_n 0, 1) := by decide +kernel
theorem dX10_feed_1 : decode cX10_feed 1 = .ok (.getfield 79, 3) := by decide +kernel
theorem dX10_feed_4 : decode cX10_feed 4 = .ok (.bipush 20, 2) := by decide +kernel
theorem dX10_feed_6 : decode cX10_feed 6 = .ok (.iadd, 1) := by decide +kernel
theorem dX10_feed_7 : decode cX10_feed 7 = .ok (.sipush 400, 3) := by decide +kernel
theorem dX10_feed_10 : decode cX10_feed 10 = .ok (.if_icmp .le 5, 3) := by decide +kernel
theorem dX10_feed_13 : decode cX10_feed 13 = .ok (.iconst (-1), 1) := by decide +kernel
theorem dX10_feed_14 : decode cX10_feed 14 = .ok (.ireturn, 1) := by decide +kernel
theorem dX10_feed_15 : decode cX10_feed 15 = .ok (.aload_n 0, 1) := by decide +kernel
theorem dX10_feed_16 : decode cX10_feed 16 = .ok (.iload_n 1, 1) := by decide +kernel
theorem dX10_feed_17 : decode cX10_feed 17 = .ok (.invokevirtual 83, 3) := by decide +kernel
theorem dX10_feed_20 : decode cX10_feed 20 = .ok (.aload_n 0, 1) := by decide +kernel
theorem dX10_feed_21 : decode cX10_feed 21 = .ok (.iload_n 2, 1) := by decide +kernel
theorem dX10_feed_22 : decode cX10_feed 22 = .ok (.invokevirtual 83, 3) := by decide +kernel
theorem dX10_feed_25 : decode cX10_feed 25 = .ok (.aload_n 0, 1) := by decide +kernel
theorem dX10_feed_26 : decode cX10_feed 26 = .ok (.iload_n 3, 1) := by decide +kernel
theorem dX10_feed_27 : decode cX10_feed 27 = .ok (.invokevirtual 83, 3) := by decide +kernel
theorem dX10_feed_30 : decode cX10_feed 30 = .ok (.aload_n 0, 1) := by decide +kernel
theorem dX10_feed_31 : decode cX10_feed 31 = .ok (.iload 4, 2) := by decide +kernel
theorem dX10_feed_33 : decode cX10_feed 33 = .ok (.invokevirtual 83, 3) := by decide +kernel
theorem dX10_feed_36 : decode cX10_feed 36 = .ok (.aload_n 0, 1) := by decide +kernel
theorem dX10_feed_37 : decode cX10_feed 37 = .ok (.iload 5, 2) := by decide +kernel
theorem dX10_feed_39 : decode cX10_feed 39 = .ok (.invokevirtual 83, 3) := by decide +kernel
theorem dX10_feed_42 : decode cX10_feed 42 = .ok (.aload_n 0, 1) := by decide +kernel
theorem dX10_feed_43 : decode cX10_feed 43 = .ok (.getfield 79, 3) := by decide +kernel
theorem dX10_feed_46 : decode cX10_feed 46 = .ok (.ireturn, 1) := by decide +kernel
theorem dX10_end_0 : decode cX10_end 0 = .ok (.iload_n 1, 1) := by decide +kernel
theorem dX10_end_1 : decode cX10_end 1 = .ok (.ifCond .lt 11, 3) := by decide +kernel
theorem dX10_end_4 : decode cX10_end 4 = .ok (.iload_n 1, 1) := by decide +kernel
theorem dX10_end_5 : decode cX10_end 5 = .ok (.aload_n 0, 1) := by decide +kernel
theorem dX10_end_6 : decode cX10_end 6 = .ok (.getfield 79, 3) := by decide +kernel
theorem dX10_end_9 : decode cX10_end 9 = .ok (.if_icmp .le 5, 3) := by decide +kernel
theorem dX10_end_12 : decode cX10_end 12 = .ok (.iconst (-1), 1) := by decide +kernel
theorem dX10_end_13 : decode cX10_end 13 = .ok (.ireturn, 1) := by decide +kernel
theorem dX10_end_14 : decode cX10_end 14 = .ok (.aload_n 0, 1) := by decide +kernel
theorem dX10_end_15 : decode cX10_end 15 = .ok (.iload_n 1, 1) := by decide +kernel
theorem dX10_end_16 : decode cX10_end 16 = .ok (.putfield 79, 3) := by decide +kernel
theorem dX10_end_19 : decode cX10_end 19 = .ok (.iload_n 1, 1) := by decide +kernel
theorem dX10_end_20 : decode cX10_end 20 = .ok (.ireturn, 1) := by decide +kernel
theorem dX10_fails_0 : decode cX10_fails 0 = .ok (.aload_n 0, 1) := by decide +kernel
theorem dX10_fails_1 : decode cX10_fails 1 = .ok (.getfield 87, 3) := by decide +kernel
theorem dX10_fails_4 : decode cX10_fails 4 = .ok (.ifCond .ne 15, 3) := by decide +kernel
theorem dX10_fails_7 : decode cX10_fails 7 = .ok (.aload_n 0, 1) := by decide +kernel
theorem dX10_fails_8 : decode cX10_fails 8 = .ok (.iconst 1, 1) := by decide +kernel
theorem dX10_fails_9 : decode cX10_fails 9 = .ok (.bipush 8, 2) := by decide +kernel
theorem dX10_fails_11 : decode cX10_fails 11 = .ok (.iload_n 2, 1) := by decide +kernel
theorem dX10_fails_12 : decode cX10_fails 12 = .ok (.imul, 1) := by decide +kernel
theorem dX10_fails_13 : decode cX10_fails 13 = .ok (.iadd, 1) := by decide +kernel
theorem dX10_fails_14 : decode cX10_fails 14 = .ok (.iload_n 1, 1) := by decide +kernel
theorem dX10_fails_15 : decode cX10_fails 15 = .ok (.iadd, 1) := by decide +kernel
theorem dX10_fails_16 : decode cX10_fails 16 = .ok (.putfield 87, 3) := by decide +kernel
theorem dX10_fails_19 : decode cX10_fails 19 = .ok (.iconst 0, 1) := by decide +kernel
theorem dX10_fails_20 : decode cX10_fails 20 = .ok (.ireturn, 1) := by decide +kernel
theorem dX10_see_0 : decode cX10_see 0 = .ok (.aload_n 0, 1) := by decide +kernel
theorem dX10_see_1 : decode cX10_see 1 = .ok (.getfield 90, 3) := by decide +kernel
theorem dX10_see_4 : decode cX10_see 4 = .ok (.aload_n 0, 1) := by decide +kernel
theorem dX10_see_5 : decode cX10_see 5 = .ok (.getfield 79, 3) := by decide +kernel
theorem dX10_see_8 : decode cX10_see 8 = .ok (.if_icmp .ge 30, 3) := by decide +kernel
theorem dX10_see_11 : decode cX10_see 11 = .ok (.aload_n 0, 1) := by decide +kernel
theorem dX10_see_12 : decode cX10_see 12 = .ok (.getfield 7, 3) := by decide +kernel
theorem dX10_see_15 : decode cX10_see 15 = .ok (.aload_n 0, 1) := by decide +kernel
theorem dX10_see_16 : decode cX10_see 16 = .ok (.getfield 90, 3) := by decide +kernel
theorem dX10_see_19 : decode cX10_see 19 = .ok (.baload, 1) := by decide +kernel
theorem dX10_see_20 : decode cX10_see 20 = .ok (.bipush 32, 2) := by decide +kernel
theorem dX10_see_22 : decode cX10_see 22 = .ok (.if_icmp .ne 16, 3) := by decide +kernel
theorem dX10_see_25 : decode cX10_see 25 = .ok (.aload_n 0, 1) := by decide +kernel
theorem dX10_see_26 : decode cX10_see 26 = .ok (.dup, 1) := by decide +kernel
theorem dX10_see_27 : decode cX10_see 27 = .ok (.getfield 90, 3) := by decide +kernel
theorem dX10_see_30 : decode cX10_see 30 = .ok (.iconst 1, 1) := by decide +kernel
theorem dX10_see_31 : decode cX10_see 31 = .ok (.iadd, 1) := by decide +kernel
theorem dX10_see_32 : decode cX10_see 32 = .ok (.putfield 90, 3) := by decide +kernel
theorem dX10_see_35 : decode cX10_see 35 = .ok (.goto (-35), 3) := by decide +kernel
theorem dX10_see_38 : decode cX10_see 38 = .ok (.aload_n 0, 1) := by decide +kernel
theorem dX10_see_39 : decode cX10_see 39 = .ok (.getfield 90, 3) := by decide +kernel
theorem dX10_see_42 : decode cX10_see 42 = .ok (.aload_n 0, 1) := by decide +kernel
theorem dX10_see_43 : decode cX10_see 43 = .ok (.getfield 79, 3) := by decide +kernel
theorem dX10_see_46 : decode cX10_see 46 = .ok (.if_icmp .ge 19, 3) := by decide +kernel
theorem dX10_see_49 : decode cX10_see 49 = .ok (.aload_n 0, 1) := by decide +kernel
theorem dX10_see_50 : decode cX10_see 50 = .ok (.getfield 7, 3) := by decide +kernel
theorem dX10_see_53 : decode cX10_see 53 = .ok (.aload_n 0, 1) := by decide +kernel
theorem dX10_see_54 : decode cX10_see 54 = .ok (.getfield 90, 3) := by decide +kernel
theorem dX10_see_57 : decode cX10_see 57 = .ok (.baload, 1) := by decide +kernel
theorem dX10_see_58 : decode cX10_see 58 = .ok (.sipush 255, 3) := by decide +kernel
theorem dX10_see_61 : decode cX10_see 61 = .ok (.iand, 1) := by decide +kernel
theorem dX10_see_62 : decode cX10_see 62 = .ok (.goto 4, 3) := by decide +kernel
theorem dX10_see_65 : decode cX10_see 65 = .ok (.iconst (-1), 1) := by decide +kernel
theorem dX10_see_66 : decode cX10_see 66 = .ok (.ireturn, 1) := by decide +kernel
theorem dX10_isDigit_0 : decode cX10_isDigit 0 = .ok (.iload_n 1, 1) := by decide +kernel
theorem dX10_isDigit_1 : decode cX10_isDigit 1 = .ok (.aload_n 0, 1) := by decide +kernel
theorem dX10_isDigit_2 : decode cX10_isDigit 2 = .ok (.getfield 79, 3) := by decide +kernel
theorem dX10_isDigit_5 : decode cX10_isDigit 5 = .ok (.if_icmp .ge 29, 3) := by decide +kernel
theorem dX10_isDigit_8 : decode cX10_isDigit 8 = .ok (.aload_n 0, 1) := by decide +kernel
theorem dX10_isDigit_9 : decode cX10_isDigit 9 = .ok (.getfield 7, 3) := by decide +kernel
theorem dX10_isDigit_12 : decode cX10_isDigit 12 = .ok (.iload_n 1, 1) := by decide +kernel
theorem dX10_isDigit_13 : decode cX10_isDigit 13 = .ok (.baload, 1) := by decide +kernel
theorem dX10_isDigit_14 : decode cX10_isDigit 14 = .ok (.bipush 48, 2) := by decide +kernel
theorem dX10_isDigit_16 : decode cX10_isDigit 16 = .ok (.if_icmp .lt 18, 3) := by decide +kernel
theorem dX10_isDigit_19 : decode cX10_isDigit 19 = .ok (.aload_n 0, 1) := by decide +kernel
theorem dX10_isDigit_20 : decode cX10_isDigit 20 = .ok (.getfield 7, 3) := by decide +kernel
theorem dX10_isDigit_23 : decode cX10_isDigit 23 = .ok (.iload_n 1, 1) := by decide +kernel
theorem dX10_isDigit_24 : decode cX10_isDigit 24 = .ok (.baload, 1) := by decide +kernel
theorem dX10_isDigit_25 : decode cX10_isDigit 25 = .ok (.bipush 57, 2) := by decide +kernel
theorem dX10_isDigit_27 : decode cX10_isDigit 27 = .ok (.if_icmp .gt 7, 3) := by decide +kernel
theorem dX10_isDigit_30 : decode cX10_isDigit 30 = .ok (.iconst 1, 1) := by decide +kernel
theorem dX10_isDigit_31 : decode cX10_isDigit 31 = .ok (.goto 4, 3) := by decide +kernel
theorem dX10_isDigit_34 : decode cX10_isDigit 34 = .ok (.iconst 0, 1) := by decide +kernel
theorem dX10_isDigit_35 : decode cX10_isDigit 35 = .ok (.ireturn, 1) := by decide +kernel
theorem dX10_isLetter_0 : decode cX10_isLetter 0 = .ok (.iload_n 1, 1) := by decide +kernel
theorem dX10_isLetter_1 : decode cX10_isLetter 1 = .ok (.aload_n 0, 1) := by decide +kernel
theorem dX10_isLetter_2 : decode cX10_isLetter 2 = .ok (.getfield 79, 3) := by decide +kernel
theorem dX10_isLetter_5 : decode cX10_isLetter 5 = .ok (.if_icmp .ge 29, 3) := by decide +kernel
theorem dX10_isLetter_8 : decode cX10_isLetter 8 = .ok (.aload_n 0, 1) := by decide +kernel
theorem dX10_isLetter_9 : decode cX10_isLetter 9 = .ok (.getfield 7, 3) := by decide +kernel
theorem dX10_isLetter_12 : decode cX10_isLetter 12 = .ok (.iload_n 1, 1) := by decide +kernel
theorem dX10_isLetter_13 : decode cX10_isLetter 13 = .ok (.baload, 1) := by decide +kernel
theorem dX10_isLetter_14 : decode cX10_isLetter 14 = .ok (.bipush 97, 2) := by decide +kernel
theorem dX10_isLetter_16 : decode cX10_isLetter 16 = .ok (.if_icmp .lt 18, 3) := by decide +kernel
theorem dX10_isLetter_19 : decode cX10_isLetter 19 = .ok (.aload_n 0, 1) := by decide +kernel
theorem dX10_isLetter_20 : decode cX10_isLetter 20 = .ok (.getfield 7, 3) := by decide +kernel
theorem dX10_isLetter_23 : decode cX10_isLetter 23 = .ok (.iload_n 1, 1) := by decide +kernel
theorem dX10_isLetter_24 : decode cX10_isLetter 24 = .ok (.baload, 1) := by decide +kernel
theorem dX10_isLetter_25 : decode cX10_isLetter 25 = .ok (.bipush 122, 2) := by decide +kernel
theorem dX10_isLetter_27 : decode cX10_isLetter 27 = .ok (.if_icmp .gt 7, 3) := by decide +kernel
theorem dX10_isLetter_30 : decode cX10_isLetter 30 = .ok (.iconst 1, 1) := by decide +kernel
theorem dX10_isLetter_31 : decode cX10_isLetter 31 = .ok (.goto 4, 3) := by decide +kernel
theorem dX10_isLetter_34 : decode cX10_isLetter 34 = .ok (.iconst 0, 1) := by decide +kernel
theorem dX10_isLetter_35 : decode cX10_isLetter 35 = .ok (.ireturn, 1) := by decide +kernel
theorem dX10_isWord_0 : decode cX10_isWord 0 = .ok (.aload_n 0, 1) := by decide +kernel
theorem dX10_isWord_1 : decode cX10_isWord 1 = .ok (.invokevirtual 93, 3) := by decide +kernel
theorem dX10_isWord_4 : decode cX10_isWord 4 = .ok (.pop, 1) := by decide +kernel
theorem dX10_isWord_5 : decode cX10_isWord 5 = .ok (.lconst 0, 1) := by decide +kernel
theorem dX10_isWord_6 : decode cX10_isWord 6 = .ok (.lstore_n 3, 1) := by decide +kernel
theorem dX10_isWord_7 : decode cX10_isWord 7 = .ok (.iconst 0, 1) := by decide +kernel
theorem dX10_isWord_8 : decode cX10_isWord 8 = .ok (.istore 5, 2) := by decide +kernel
theorem dX10_isWord_10 : decode cX10_isWord 10 = .ok (.aload_n 0, 1) := by decide +kernel
theorem dX10_isWord_11 : decode cX10_isWord 11 = .ok (.aload_n 0, 1) := by decide +kernel
theorem dX10_isWord_12 : decode cX10_isWord 12 = .ok (.getfield 90, 3) := by decide +kernel
theorem dX10_isWord_15 : decode cX10_isWord 15 = .ok (.iload 5, 2) := by decide +kernel
theorem dX10_isWord_17 : decode cX10_isWord 17 = .ok (.iadd, 1) := by decide +kernel
theorem dX10_isWord_18 : decode cX10_isWord 18 = .ok (.invokevirtual 97, 3) := by decide +kernel
theorem dX10_isWord_21 : decode cX10_isWord 21 = .ok (.ifCond .eq 35, 3) := by decide +kernel
theorem dX10_isWord_24 : decode cX10_isWord 24 = .ok (.iload 5, 2) := by decide +kernel
theorem dX10_isWord_26 : decode cX10_isWord 26 = .ok (.bipush 8, 2) := by decide +kernel
theorem dX10_isWord_28 : decode cX10_isWord 28 = .ok (.if_icmp .ge 22, 3) := by decide +kernel
theorem dX10_isWord_31 : decode cX10_isWord 31 = .ok (.lload_n 3, 1) := by decide +kernel
theorem dX10_isWord_32 : decode cX10_isWord 32 = .ok (.bipush 8, 2) := by decide +kernel
theorem dX10_isWord_34 : decode cX10_isWord 34 = .ok (.lshl, 1) := by decide +kernel
theorem dX10_isWord_35 : decode cX10_isWord 35 = .ok (.aload_n 0, 1) := by decide +kernel
theorem dX10_isWord_36 : decode cX10_isWord 36 = .ok (.getfield 7, 3) := by decide +kernel
theorem dX10_isWord_39 : decode cX10_isWord 39 = .ok (.aload_n 0, 1) := by decide +kernel
theorem dX10_isWord_40 : decode cX10_isWord 40 = .ok (.getfield 90, 3) := by decide +kernel
theorem dX10_isWord_43 : decode cX10_isWord 43 = .ok (.iload 5, 2) := by decide +kernel
theorem dX10_isWord_45 : decode cX10_isWord 45 = .ok (.iadd, 1) := by decide +kernel
theorem dX10_isWord_46 : decode cX10_isWord 46 = .ok (.baload, 1) := by decide +kernel
theorem dX10_isWord_47 : decode cX10_isWord 47 = .ok (.i2l, 1) := by decide +kernel
theorem dX10_isWord_48 : decode cX10_isWord 48 = .ok (.lor, 1) := by decide +kernel
theorem dX10_isWord_49 : decode cX10_isWord 49 = .ok (.lstore_n 3, 1) := by decide +kernel
theorem dX10_isWord_50 : decode cX10_isWord 50 = .ok (.iinc 5 1, 3) := by decide +kernel
theorem dX10_isWord_53 : decode cX10_isWord 53 = .ok (.goto (-43), 3) := by decide +kernel
theorem dX10_isWord_56 : decode cX10_isWord 56 = .ok (.iload 5, 2) := by decide +kernel
theorem dX10_isWord_58 : decode cX10_isWord 58 = .ok (.ifCond .le 20, 3) := by decide +kernel
theorem dX10_isWord_61 : decode cX10_isWord 61 = .ok (.iload 5, 2) := by decide +kernel
theorem dX10_isWord_63 : decode cX10_isWord 63 = .ok (.bipush 8, 2) := by decide +kernel
theorem dX10_isWord_65 : decode cX10_isWord 65 = .ok (.if_icmp .ge 13, 3) := by decide +kernel
theorem dX10_isWord_68 : decode cX10_isWord 68 = .ok (.lload_n 3, 1) := by decide +kernel
theorem dX10_isWord_69 : decode cX10_isWord 69 = .ok (.lload_n 1, 1) := by decide +kernel
theorem dX10_isWord_70 : decode cX10_isWord 70 = .ok (.lcmp, 1) := by decide +kernel
theorem dX10_isWord_71 : decode cX10_isWord 71 = .ok (.ifCond .ne 7, 3) := by decide +kernel
theorem dX10_isWord_74 : decode cX10_isWord 74 = .ok (.iconst 1, 1) := by decide +kernel
theorem dX10_isWord_75 : decode cX10_isWord 75 = .ok (.goto 4, 3) := by decide +kernel
theorem dX10_isWord_78 : decode cX10_isWord 78 = .ok (.iconst 0, 1) := by decide +kernel
theorem dX10_isWord_79 : decode cX10_isWord 79 = .ok (.ireturn, 1) := by decide +kernel
theorem dX10_passWord_0 : decode cX10_passWord 0 = .ok (.aload_n 0, 1) := by decide +kernel
theorem dX10_passWord_1 : decode cX10_passWord 1 = .ok (.aload_n 0, 1) := by decide +kernel
theorem dX10_passWord_2 : decode cX10_passWord 2 = .ok (.getfield 90, 3) := by decide +kernel
theorem dX10_passWord_5 : decode cX10_passWord 5 = .ok (.invokevirtual 97, 3) := by decide +kernel
theorem dX10_passWord_8 : decode cX10_passWord 8 = .ok (.ifCond .eq 16, 3) := by decide +kernel
theorem dX10_passWord_11 : decode cX10_passWord 11 = .ok (.aload_n 0, 1) := by decide +kernel
theorem dX10_passWord_12 : decode cX10_passWord 12 = .ok (.dup, 1) := by decide +kernel
theorem dX10_passWord_13 : decode cX10_passWord 13 = .ok (.getfield 90, 3) := by decide +kernel
theorem dX10_passWord_16 : decode cX10_passWord 16 = .ok (.iconst 1, 1) := by decide +kernel
theorem dX10_passWord_17 : decode cX10_passWord 17 = .ok (.iadd, 1) := by decide +kernel
theorem dX10_passWord_18 : decode cX10_passWord 18 = .ok (.putfield 90, 3) := by decide +kernel
theorem dX10_passWord_21 : decode cX10_passWord 21 = .ok (.goto (-21), 3) := by decide +kernel
theorem dX10_passWord_24 : decode cX10_passWord 24 = .ok (.return_, 1) := by decide +kernel
theorem dX10_takesWord_0 : decode cX10_takesWord 0 = .ok (.aload_n 0, 1) := by decide +kernel
theorem dX10_takesWord_1 : decode cX10_takesWord 1 = .ok (.lload_n 1, 1) := by decide +kernel
theorem dX10_takesWord_2 : decode cX10_takesWord 2 = .ok (.invokevirtual 101, 3) := by decide +kernel
theorem dX10_takesWord_5 : decode cX10_takesWord 5 = .ok (.ifCond .ne 5, 3) := by decide +kernel
theorem dX10_takesWord_8 : decode cX10_takesWord 8 = .ok (.iconst 0, 1) := by decide +kernel
theorem dX10_takesWord_9 : decode cX10_takesWord 9 = .ok (.ireturn, 1) := by decide +kernel
theorem dX10_takesWord_10 : decode cX10_takesWord 10 = .ok (.aload_n 0, 1) := by decide +kernel
theorem dX10_takesWord_11 : decode cX10_takesWord 11 = .ok (.invokevirtual 105, 3) := by decide +kernel
theorem dX10_takesWord_14 : decode cX10_takesWord 14 = .ok (.iconst 1, 1) := by decide +kernel
theorem dX10_takesWord_15 : decode cX10_takesWord 15 = .ok (.ireturn, 1) := by decide +kernel
theorem dX10_numberHere_0 : decode cX10_numberHere 0 = .ok (.aload_n 0, 1) := by decide +kernel
theorem dX10_numberHere_1 : decode cX10_numberHere 1 = .ok (.invokevirtual 93, 3) := by decide +kernel
theorem dX10_numberHere_4 : decode cX10_numberHere 4 = .ok (.pop, 1) := by decide +kernel
theorem dX10_numberHere_5 : decode cX10_numberHere 5 = .ok (.aload_n 0, 1) := by decide +kernel
theorem dX10_numberHere_6 : decode cX10_numberHere 6 = .ok (.aload_n 0, 1) := by decide +kernel
theorem dX10_numberHere_7 : decode cX10_numberHere 7 = .ok (.getfield 90, 3) := by decide +kernel
theorem dX10_numberHere_10 : decode cX10_numberHere 10 = .ok (.invokevirtual 108, 3) := by decide +kernel
theorem dX10_numberHere_13 : decode cX10_numberHere 13 = .ok (.ifCond .ne 13, 3) := by decide +kernel
theorem dX10_numberHere_16 : decode cX10_numberHere 16 = .ok (.aload_n 0, 1) := by decide +kernel
theorem dX10_numberHere_17 : decode cX10_numberHere 17 = .ok (.iconst 0, 1) := by decide +kernel
theorem dX10_numberHere_18 : decode cX10_numberHere 18 = .ok (.aload_n 0, 1) := by decide +kernel
theorem dX10_numberHere_19 : decode cX10_numberHere 19 = .ok (.getfield 90, 3) := by decide +kernel
theorem dX10_numberHere_22 : decode cX10_numberHere 22 = .ok (.invokevirtual 111, 3) := by decide +kernel
theorem dX10_numberHere_25 : decode cX10_numberHere 25 = .ok (.ireturn, 1) := by decide +kernel
theorem dX10_numberHere_26 : decode cX10_numberHere 26 = .ok (.aload_n 0, 1) := by decide +kernel
theorem dX10_numberHere_27 : decode cX10_numberHere 27 = .ok (.getfield 90, 3) := by decide +kernel
theorem dX10_numberHere_30 : decode cX10_numberHere 30 = .ok (.istore_n 3, 1) := by decide +kernel
theorem dX10_numberHere_31 : decode cX10_numberHere 31 = .ok (.iconst 0, 1) := by decide +kernel
theorem dX10_numberHere_32 : decode cX10_numberHere 32 = .ok (.istore 4, 2) := by decide +kernel
theorem dX10_numberHere_34 : decode cX10_numberHere 34 = .ok (.aload_n 0, 1) := by decide +kernel
theorem dX10_numberHere_35 : decode cX10_numberHere 35 = .ok (.aload_n 0, 1) := by decide +kernel
theorem dX10_numberHere_36 : decode cX10_numberHere 36 = .ok (.getfield 90, 3) := by decide +kernel
theorem dX10_numberHere_39 : decode cX10_numberHere 39 = .ok (.invokevirtual 108, 3) := by decide +kernel
theorem dX10_numberHere_42 : decode cX10_numberHere 42 = .ok (.ifCond .eq 46, 3) := by decide +kernel
theorem dX10_numberHere_45 : decode cX10_numberHere 45 = .ok (.aload_n 0, 1) := by decide +kernel
theorem dX10_numberHere_46 : decode cX10_numberHere 46 = .ok (.getfield 90, 3) := by decide +kernel
theorem dX10_numberHere_49 : decode cX10_numberHere 49 = .ok (.iload_n 3, 1) := by decide +kernel
theorem dX10_numberHere_50 : decode cX10_numberHere 50 = .ok (.isub, 1) := by decide +kernel
theorem dX10_numberHere_51 : decode cX10_numberHere 51 = .ok (.iconst 5, 1) := by decide +kernel
theorem dX10_numberHere_52 : decode cX10_numberHere 52 = .ok (.if_icmp .ge 23, 3) := by decide +kernel
theorem dX10_numberHere_55 : decode cX10_numberHere 55 = .ok (.bipush 10, 2) := by decide +kernel
theorem dX10_numberHere_57 : decode cX10_numberHere 57 = .ok (.iload 4, 2) := by decide +kernel
theorem dX10_numberHere_59 : decode cX10_numberHere 59 = .ok (.imul, 1) := by decide +kernel
theorem dX10_numberHere_60 : decode cX10_numberHere 60 = .ok (.aload_n 0, 1) := by decide +kernel
theorem dX10_numberHere_61 : decode cX10_numberHere 61 = .ok (.getfield 7, 3) := by decide +kernel
theorem dX10_numberHere_64 : decode cX10_numberHere 64 = .ok (.aload_n 0, 1) := by decide +kernel
theorem dX10_numberHere_65 : decode cX10_numberHere 65 = .ok (.getfield 90, 3) := by decide +kernel
theorem dX10_numberHere_68 : decode cX10_numberHere 68 = .ok (.baload, 1) := by decide +kernel
theorem dX10_numberHere_69 : decode cX10_numberHere 69 = .ok (.iadd, 1) := by decide +kernel
theorem dX10_numberHere_70 : decode cX10_numberHere 70 = .ok (.bipush 48, 2) := by decide +kernel
theorem dX10_numberHere_72 : decode cX10_numberHere 72 = .ok (.isub, 1) := by decide +kernel
theorem dX10_numberHere_73 : decode cX10_numberHere 73 = .ok (.istore 4, 2) := by decide +kernel
theorem dX10_numberHere_75 : decode cX10_numberHere 75 = .ok (.aload_n 0, 1) := by decide +kernel
theorem dX10_numberHere_76 : decode cX10_numberHere 76 = .ok (.dup, 1) := by decide +kernel
theorem dX10_numberHere_77 : decode cX10_numberHere 77 = .ok (.getfield 90, 3) := by decide +kernel
theorem dX10_numberHere_80 : decode cX10_numberHere 80 = .ok (.iconst 1, 1) := by decide +kernel
theorem dX10_numberHere_81 : decode cX10_numberHere 81 = .ok (.iadd, 1) := by decide +kernel
theorem dX10_numberHere_82 : decode cX10_numberHere 82 = .ok (.putfield 90, 3) := by decide +kernel
theorem dX10_numberHere_85 : decode cX10_numberHere 85 = .ok (.goto (-51), 3) := by decide +kernel
theorem dX10_numberHere_88 : decode cX10_numberHere 88 = .ok (.aload_n 0, 1) := by decide +kernel
theorem dX10_numberHere_89 : decode cX10_numberHere 89 = .ok (.iload 4, 2) := by decide +kernel
theorem dX10_numberHere_91 : decode cX10_numberHere 91 = .ok (.putfield 115, 3) := by decide +kernel
theorem dX10_numberHere_94 : decode cX10_numberHere 94 = .ok (.aload_n 0, 1) := by decide +kernel
theorem dX10_numberHere_95 : decode cX10_numberHere 95 = .ok (.getfield 90, 3) := by decide +kernel
theorem dX10_numberHere_98 : decode cX10_numberHere 98 = .ok (.iload_n 3, 1) := by decide +kernel
theorem dX10_numberHere_99 : decode cX10_numberHere 99 = .ok (.isub, 1) := by decide +kernel
theorem dX10_numberHere_100 : decode cX10_numberHere 100 = .ok (.iconst 5, 1) := by decide +kernel
theorem dX10_numberHere_101 : decode cX10_numberHere 101 = .ok (.if_icmp .gt 16, 3) := by decide +kernel
theorem dX10_numberHere_104 : decode cX10_numberHere 104 = .ok (.iload 4, 2) := by decide +kernel
theorem dX10_numberHere_106 : decode cX10_numberHere 106 = .ok (.i2l, 1) := by decide +kernel
theorem dX10_numberHere_107 : decode cX10_numberHere 107 = .ok (.iload_n 1, 1) := by decide +kernel
theorem dX10_numberHere_108 : decode cX10_numberHere 108 = .ok (.i2l, 1) := by decide +kernel
theorem dX10_numberHere_109 : decode cX10_numberHere 109 = .ok (.iload_n 2, 1) := by decide +kernel
theorem dX10_numberHere_110 : decode cX10_numberHere 110 = .ok (.i2l, 1) := by decide +kernel
theorem dX10_numberHere_111 : decode cX10_numberHere 111 = .ok (.invokestatic 118, 3) := by decide +kernel
theorem dX10_numberHere_114 : decode cX10_numberHere 114 = .ok (.ifCond .ne 12, 3) := by decide +kernel
theorem dX10_numberHere_117 : decode cX10_numberHere 117 = .ok (.aload_n 0, 1) := by decide +kernel
theorem dX10_numberHere_118 : decode cX10_numberHere 118 = .ok (.iconst 1, 1) := by decide +kernel
theorem dX10_numberHere_119 : decode cX10_numberHere 119 = .ok (.iload_n 3, 1) := by decide +kernel
theorem dX10_numberHere_120 : decode cX10_numberHere 120 = .ok (.invokevirtual 111, 3) := by decide +kernel
theorem dX10_numberHere_123 : decode cX10_numberHere 123 = .ok (.ifCond .eq 7, 3) := by decide +kernel
theorem dX10_numberHere_126 : decode cX10_numberHere 126 = .ok (.iconst 1, 1) := by decide +kernel
theorem dX10_numberHere_127 : decode cX10_numberHere 127 = .ok (.goto 4, 3) := by decide +kernel
theorem dX10_numberHere_130 : decode cX10_numberHere 130 = .ok (.iconst 0, 1) := by decide +kernel
theorem dX10_numberHere_131 : decode cX10_numberHere 131 = .ok (.ireturn, 1) := by decide +kernel
theorem dX10_wordHere_0 : decode cX10_wordHere 0 = .ok (.aload_n 0, 1) := by decide +kernel
theorem dX10_wordHere_1 : decode cX10_wordHere 1 = .ok (.ldc2_w 122, 3) := by decide +kernel
theorem dX10_wordHere_4 : decode cX10_wordHere 4 = .ok (.invokevirtual 101, 3) := by decide +kernel
theorem dX10_wordHere_7 : decode cX10_wordHere 7 = .ok (.ifCond .eq 5, 3) := by decide +kernel
theorem dX10_wordHere_10 : decode cX10_wordHere 10 = .ok (.iconst 0, 1) := by decide +kernel
theorem dX10_wordHere_11 : decode cX10_wordHere 11 = .ok (.ireturn, 1) := by decide +kernel
theorem dX10_wordHere_12 : decode cX10_wordHere 12 = .ok (.aload_n 0, 1) := by decide +kernel
theorem dX10_wordHere_13 : decode cX10_wordHere 13 = .ok (.ldc2_w 124, 3) := by decide +kernel
theorem dX10_wordHere_16 : decode cX10_wordHere 16 = .ok (.invokevirtual 101, 3) := by decide +kernel
theorem dX10_wordHere_19 : decode cX10_wordHere 19 = .ok (.ifCond .eq 5, 3) := by decide +kernel
theorem dX10_wordHere_22 : decode cX10_wordHere 22 = .ok (.iconst 1, 1) := by decide +kernel
theorem dX10_wordHere_23 : decode cX10_wordHere 23 = .ok (.ireturn, 1) := by decide +kernel
theorem dX10_wordHere_24 : decode cX10_wordHere 24 = .ok (.aload_n 0, 1) := by decide +kernel
theorem dX10_wordHere_25 : decode cX10_wordHere 25 = .ok (.ldc2_w 126, 3) := by decide +kernel
theorem dX10_wordHere_28 : decode cX10_wordHere 28 = .ok (.invokevirtual 101, 3) := by decide +kernel
theorem dX10_wordHere_31 : decode cX10_wordHere 31 = .ok (.ifCond .eq 5, 3) := by decide +kernel
theorem dX10_wordHere_34 : decode cX10_wordHere 34 = .ok (.iconst 2, 1) := by decide +kernel
theorem dX10_wordHere_35 : decode cX10_wordHere 35 = .ok (.ireturn, 1) := by decide +kernel
theorem dX10_wordHere_36 : decode cX10_wordHere 36 = .ok (.aload_n 0, 1) := by decide +kernel
theorem dX10_wordHere_37 : decode cX10_wordHere 37 = .ok (.ldc2_w 128, 3) := by decide +kernel
theorem dX10_wordHere_40 : decode cX10_wordHere 40 = .ok (.invokevirtual 101, 3) := by decide +kernel
theorem dX10_wordHere_43 : decode cX10_wordHere 43 = .ok (.ifCond .eq 5, 3) := by decide +kernel
theorem dX10_wordHere_46 : decode cX10_wordHere 46 = .ok (.iconst 3, 1) := by decide +kernel
theorem dX10_wordHere_47 : decode cX10_wordHere 47 = .ok (.ireturn, 1) := by decide +kernel
theorem dX10_wordHere_48 : decode cX10_wordHere 48 = .ok (.aload_n 0, 1) := by decide +kernel
theorem dX10_wordHere_49 : decode cX10_wordHere 49 = .ok (.ldc2_w 130, 3) := by decide +kernel
theorem dX10_wordHere_52 : decode cX10_wordHere 52 = .ok (.invokevirtual 101, 3) := by decide +kernel
theorem dX10_wordHere_55 : decode cX10_wordHere 55 = .ok (.ifCond .eq 5, 3) := by decide +kernel
theorem dX10_wordHere_58 : decode cX10_wordHere 58 = .ok (.iconst 4, 1) := by decide +kernel
theorem dX10_wordHere_59 : decode cX10_wordHere 59 = .ok (.ireturn, 1) := by decide +kernel
theorem dX10_wordHere_60 : decode cX10_wordHere 60 = .ok (.aload_n 0, 1) := by decide +kernel
theorem dX10_wordHere_61 : decode cX10_wordHere 61 = .ok (.ldc2_w 132, 3) := by decide +kernel
theorem dX10_wordHere_64 : decode cX10_wordHere 64 = .ok (.invokevirtual 101, 3) := by decide +kernel
theorem dX10_wordHere_67 : decode cX10_wordHere 67 = .ok (.ifCond .eq 5, 3) := by decide +kernel
theorem dX10_wordHere_70 : decode cX10_wordHere 70 = .ok (.iconst 5, 1) := by decide +kernel
theorem dX10_wordHere_71 : decode cX10_wordHere 71 = .ok (.ireturn, 1) := by decide +kernel
theorem dX10_wordHere_72 : decode cX10_wordHere 72 = .ok (.aload_n 0, 1) := by decide +kernel
theorem dX10_wordHere_73 : decode cX10_wordHere 73 = .ok (.ldc2_w 134, 3) := by decide +kernel
theorem dX10_wordHere_76 : decode cX10_wordHere 76 = .ok (.invokevirtual 101, 3) := by decide +kernel
theorem dX10_wordHere_79 : decode cX10_wordHere 79 = .ok (.ifCond .eq 6, 3) := by decide +kernel
theorem dX10_wordHere_82 : decode cX10_wordHere 82 = .ok (.bipush 6, 2) := by decide +kernel
theorem dX10_wordHere_84 : decode cX10_wordHere 84 = .ok (.ireturn, 1) := by decide +kernel
theorem dX10_wordHere_85 : decode cX10_wordHere 85 = .ok (.aload_n 0, 1) := by decide +kernel
theorem dX10_wordHere_86 : decode cX10_wordHere 86 = .ok (.ldc2_w 136, 3) := by decide +kernel
theorem dX10_wordHere_89 : decode cX10_wordHere 89 = .ok (.invokevirtual 101, 3) := by decide +kernel
theorem dX10_wordHere_92 : decode cX10_wordHere 92 = .ok (.ifCond .eq 6, 3) := by decide +kernel
theorem dX10_wordHere_95 : decode cX10_wordHere 95 = .ok (.bipush 7, 2) := by decide +kernel
theorem dX10_wordHere_97 : decode cX10_wordHere 97 = .ok (.ireturn, 1) := by decide +kernel
theorem dX10_wordHere_98 : decode cX10_wordHere 98 = .ok (.aload_n 0, 1) := by decide +kernel
theorem dX10_wordHere_99 : decode cX10_wordHere 99 = .ok (.ldc2_w 138, 3) := by decide +kernel
theorem dX10_wordHere_102 : decode cX10_wordHere 102 = .ok (.invokevirtual 101, 3) := by decide +kernel
theorem dX10_wordHere_105 : decode cX10_wordHere 105 = .ok (.ifCond .eq 6, 3) := by decide +kernel
theorem dX10_wordHere_108 : decode cX10_wordHere 108 = .ok (.bipush 8, 2) := by decide +kernel
theorem dX10_wordHere_110 : decode cX10_wordHere 110 = .ok (.ireturn, 1) := by decide +kernel
theorem dX10_wordHere_111 : decode cX10_wordHere 111 = .ok (.aload_n 0, 1) := by decide +kernel
theorem dX10_wordHere_112 : decode cX10_wordHere 112 = .ok (.ldc2_w 140, 3) := by decide +kernel
theorem dX10_wordHere_115 : decode cX10_wordHere 115 = .ok (.invokevirtual 101, 3) := by decide +kernel
theorem dX10_wordHere_118 : decode cX10_wordHere 118 = .ok (.ifCond .eq 6, 3) := by decide +kernel
theorem dX10_wordHere_121 : decode cX10_wordHere 121 = .ok (.bipush 9, 2) := by decide +kernel
theorem dX10_wordHere_123 : decode cX10_wordHere 123 = .ok (.ireturn, 1) := by decide +kernel
theorem dX10_wordHere_124 : decode cX10_wordHere 124 = .ok (.aload_n 0, 1) := by decide +kernel
theorem dX10_wordHere_125 : decode cX10_wordHere 125 = .ok (.ldc2_w 142, 3) := by decide +kernel
theorem dX10_wordHere_128 : decode cX10_wordHere 128 = .ok (.invokevirtual 101, 3) := by decide +kernel
theorem dX10_wordHere_131 : decode cX10_wordHere 131 = .ok (.ifCond .eq 8, 3) := by decide +kernel
theorem dX10_wordHere_134 : decode cX10_wordHere 134 = .ok (.bipush 10, 2) := by decide +kernel
theorem dX10_wordHere_136 : decode cX10_wordHere 136 = .ok (.goto 19, 3) := by decide +kernel
theorem dX10_wordHere_139 : decode cX10_wordHere 139 = .ok (.aload_n 0, 1) := by decide +kernel
theorem dX10_wordHere_140 : decode cX10_wordHere 140 = .ok (.ldc2_w 144, 3) := by decide +kernel
theorem dX10_wordHere_143 : decode cX10_wordHere 143 = .ok (.invokevirtual 101, 3) := by decide +kernel
theorem dX10_wordHere_146 : decode cX10_wordHere 146 = .ok (.ifCond .eq 8, 3) := by decide +kernel
theorem dX10_wordHere_149 : decode cX10_wordHere 149 = .ok (.bipush 11, 2) := by decide +kernel
theorem dX10_wordHere_151 : decode cX10_wordHere 151 = .ok (.goto 4, 3) := by decide +kernel
theorem dX10_wordHere_154 : decode cX10_wordHere 154 = .ok (.iconst (-1), 1) := by decide +kernel
theorem dX10_wordHere_155 : decode cX10_wordHere 155 = .ok (.ireturn, 1) := by decide +kernel
theorem dX10_puts_0 : decode cX10_puts 0 = .ok (.aload_n 0, 1) := by decide +kernel
theorem dX10_puts_1 : decode cX10_puts 1 = .ok (.getfield 13, 3) := by decide +kernel
theorem dX10_puts_4 : decode cX10_puts 4 = .ok (.sipush 400, 3) := by decide +kernel
theorem dX10_puts_7 : decode cX10_puts 7 = .ok (.aload_n 0, 1) := by decide +kernel
theorem dX10_puts_8 : decode cX10_puts 8 = .ok (.getfield 146, 3) := by decide +kernel
theorem dX10_puts_11 : decode cX10_puts 11 = .ok (.imul, 1) := by decide +kernel
theorem dX10_puts_12 : decode cX10_puts 12 = .ok (.aload_n 0, 1) := by decide +kernel
theorem dX10_puts_13 : decode cX10_puts 13 = .ok (.getfield 17, 3) := by decide +kernel
theorem dX10_puts_16 : decode cX10_puts 16 = .ok (.aload_n 0, 1) := by decide +kernel
theorem dX10_puts_17 : decode cX10_puts 17 = .ok (.getfield 146, 3) := by decide +kernel
theorem dX10_puts_20 : decode cX10_puts 20 = .ok (.iaload, 1) := by decide +kernel
theorem dX10_puts_21 : decode cX10_puts 21 = .ok (.iadd, 1) := by decide +kernel
theorem dX10_puts_22 : decode cX10_puts 22 = .ok (.iload_n 1, 1) := by decide +kernel
theorem dX10_puts_23 : decode cX10_puts 23 = .ok (.bipush 16, 2) := by decide +kernel
theorem dX10_puts_25 : decode cX10_puts 25 = .ok (.iload_n 2, 1) := by decide +kernel
theorem dX10_puts_26 : decode cX10_puts 26 = .ok (.imul, 1) := by decide +kernel
theorem dX10_puts_27 : decode cX10_puts 27 = .ok (.iadd, 1) := by decide +kernel
theorem dX10_puts_28 : decode cX10_puts 28 = .ok (.iastore, 1) := by decide +kernel
theorem dX10_puts_29 : decode cX10_puts 29 = .ok (.aload_n 0, 1) := by decide +kernel
theorem dX10_puts_30 : decode cX10_puts 30 = .ok (.getfield 17, 3) := by decide +kernel
theorem dX10_puts_33 : decode cX10_puts 33 = .ok (.aload_n 0, 1) := by decide +kernel
theorem dX10_puts_34 : decode cX10_puts 34 = .ok (.getfield 146, 3) := by decide +kernel
theorem dX10_puts_37 : decode cX10_puts 37 = .ok (.dup2, 1) := by decide +kernel
theorem dX10_puts_38 : decode cX10_puts 38 = .ok (.iaload, 1) := by decide +kernel
theorem dX10_puts_39 : decode cX10_puts 39 = .ok (.iconst 1, 1) := by decide +kernel
theorem dX10_puts_40 : decode cX10_puts 40 = .ok (.iadd, 1) := by decide +kernel
theorem dX10_puts_41 : decode cX10_puts 41 = .ok (.iastore, 1) := by decide +kernel
theorem dX10_puts_42 : decode cX10_puts 42 = .ok (.return_, 1) := by decide +kernel
theorem dX10_makes_0 : decode cX10_makes 0 = .ok (.aload_n 0, 1) := by decide +kernel
theorem dX10_makes_1 : decode cX10_makes 1 = .ok (.getfield 149, 3) := by decide +kernel
theorem dX10_makes_4 : decode cX10_makes 4 = .ok (.bipush 60, 2) := by decide +kernel
theorem dX10_makes_6 : decode cX10_makes 6 = .ok (.if_icmp .ne 10, 3) := by decide +kernel
theorem dX10_makes_9 : decode cX10_makes 9 = .ok (.aload_n 0, 1) := by decide +kernel
theorem dX10_makes_10 : decode cX10_makes 10 = .ok (.iconst 3, 1) := by decide +kernel
theorem dX10_makes_11 : decode cX10_makes 11 = .ok (.iload_n 1, 1) := by decide +kernel
theorem dX10_makes_12 : decode cX10_makes 12 = .ok (.invokevirtual 111, 3) := by decide +kernel
theorem dX10_makes_15 : decode cX10_makes 15 = .ok (.ireturn, 1) := by decide +kernel
theorem dX10_makes_16 : decode cX10_makes 16 = .ok (.aload_n 0, 1) := by decide +kernel
theorem dX10_makes_17 : decode cX10_makes 17 = .ok (.dup, 1) := by decide +kernel
theorem dX10_makes_18 : decode cX10_makes 18 = .ok (.getfield 149, 3) := by decide +kernel
theorem dX10_makes_21 : decode cX10_makes 21 = .ok (.iconst 1, 1) := by decide +kernel
theorem dX10_makes_22 : decode cX10_makes 22 = .ok (.iadd, 1) := by decide +kernel
theorem dX10_makes_23 : decode cX10_makes 23 = .ok (.putfield 149, 3) := by decide +kernel
theorem dX10_makes_26 : decode cX10_makes 26 = .ok (.iconst 1, 1) := by decide +kernel
theorem dX10_makes_27 : decode cX10_makes 27 = .ok (.ireturn, 1) := by decide +kernel
theorem dX10_opens_0 : decode cX10_opens 0 = .ok (.aload_n 0, 1) := by decide +kernel
theorem dX10_opens_1 : decode cX10_opens 1 = .ok (.getfield 152, 3) := by decide +kernel
theorem dX10_opens_4 : decode cX10_opens 4 = .ok (.bipush 10, 2) := by decide +kernel
theorem dX10_opens_6 : decode cX10_opens 6 = .ok (.if_icmp .ne 13, 3) := by decide +kernel
theorem dX10_opens_9 : decode cX10_opens 9 = .ok (.aload_n 0, 1) := by decide +kernel
theorem dX10_opens_10 : decode cX10_opens 10 = .ok (.iconst 2, 1) := by decide +kernel
theorem dX10_opens_11 : decode cX10_opens 11 = .ok (.aload_n 0, 1) := by decide +kernel
theorem dX10_opens_12 : decode cX10_opens 12 = .ok (.getfield 90, 3) := by decide +kernel
theorem dX10_opens_15 : decode cX10_opens 15 = .ok (.invokevirtual 111, 3) := by decide +kernel
theorem dX10_opens_18 : decode cX10_opens 18 = .ok (.ireturn, 1) := by decide +kernel
theorem dX10_opens_19 : decode cX10_opens 19 = .ok (.aload_n 0, 1) := by decide +kernel
theorem dX10_opens_20 : decode cX10_opens 20 = .ok (.dup, 1) := by decide +kernel
theorem dX10_opens_21 : decode cX10_opens 21 = .ok (.getfield 152, 3) := by decide +kernel
theorem dX10_opens_24 : decode cX10_opens 24 = .ok (.iconst 1, 1) := by decide +kernel
theorem dX10_opens_25 : decode cX10_opens 25 = .ok (.iadd, 1) := by decide +kernel
theorem dX10_opens_26 : decode cX10_opens 26 = .ok (.putfield 152, 3) := by decide +kernel
theorem dX10_opens_29 : decode cX10_opens 29 = .ok (.aload_n 0, 1) := by decide +kernel
theorem dX10_opens_30 : decode cX10_opens 30 = .ok (.getfield 29, 3) := by decide +kernel
theorem dX10_opens_33 : decode cX10_opens 33 = .ok (.aload_n 0, 1) := by decide +kernel
theorem dX10_opens_34 : decode cX10_opens 34 = .ok (.getfield 155, 3) := by decide +kernel
theorem dX10_opens_37 : decode cX10_opens 37 = .ok (.iload_n 1, 1) := by decide +kernel
theorem dX10_opens_38 : decode cX10_opens 38 = .ok (.iastore, 1) := by decide +kernel
theorem dX10_opens_39 : decode cX10_opens 39 = .ok (.aload_n 0, 1) := by decide +kernel
theorem dX10_opens_40 : decode cX10_opens 40 = .ok (.dup, 1) := by decide +kernel
theorem dX10_opens_41 : decode cX10_opens 41 = .ok (.getfield 155, 3) := by decide +kernel
theorem dX10_opens_44 : decode cX10_opens 44 = .ok (.iconst 1, 1) := by decide +kernel
theorem dX10_opens_45 : decode cX10_opens 45 = .ok (.iadd, 1) := by decide +kernel
theorem dX10_opens_46 : decode cX10_opens 46 = .ok (.putfield 155, 3) := by decide +kernel
theorem dX10_opens_49 : decode cX10_opens 49 = .ok (.iconst 1, 1) := by decide +kernel
theorem dX10_opens_50 : decode cX10_opens 50 = .ok (.ireturn, 1) := by decide +kernel
theorem dX10_strength_0 : decode cX10_strength 0 = .ok (.iload_n 0, 1) := by decide +kernel
theorem dX10_strength_1 : decode cX10_strength 1 = .ok (.bipush 13, 2) := by decide +kernel
theorem dX10_strength_3 : decode cX10_strength 3 = .ok (.if_icmp .ne 7, 3) := by decide +kernel
theorem dX10_strength_6 : decode cX10_strength 6 = .ok (.iconst 1, 1) := by decide +kernel
theorem dX10_strength_7 : decode cX10_strength 7 = .ok (.goto 24, 3) := by decide +kernel
theorem dX10_strength_10 : decode cX10_strength 10 = .ok (.iload_n 0, 1) := by decide +kernel
theorem dX10_strength_11 : decode cX10_strength 11 = .ok (.bipush 12, 2) := by decide +kernel
theorem dX10_strength_13 : decode cX10_strength 13 = .ok (.if_icmp .ne 7, 3) := by decide +kernel
theorem dX10_strength_16 : decode cX10_strength 16 = .ok (.iconst 2, 1) := by decide +kernel
theorem dX10_strength_17 : decode cX10_strength 17 = .ok (.goto 14, 3) := by decide +kernel
theorem dX10_strength_20 : decode cX10_strength 20 = .ok (.iload_n 0, 1) := by decide +kernel
theorem dX10_strength_21 : decode cX10_strength 21 = .ok (.bipush 11, 2) := by decide +kernel
theorem dX10_strength_23 : decode cX10_strength 23 = .ok (.if_icmp .ne 7, 3) := by decide +kernel
theorem dX10_strength_26 : decode cX10_strength 26 = .ok (.iconst 3, 1) := by decide +kernel
theorem dX10_strength_27 : decode cX10_strength 27 = .ok (.goto 4, 3) := by decide +kernel
theorem dX10_strength_30 : decode cX10_strength 30 = .ok (.iconst 0, 1) := by decide +kernel
theorem dX10_strength_31 : decode cX10_strength 31 = .ok (.ireturn, 1) := by decide +kernel
theorem dX10_settles_0 : decode cX10_settles 0 = .ok (.aload_n 0, 1) := by decide +kernel
theorem dX10_settles_1 : decode cX10_settles 1 = .ok (.getfield 155, 3) := by decide +kernel
theorem dX10_settles_4 : decode cX10_settles 4 = .ok (.ifCond .le 72, 3) := by decide +kernel
theorem dX10_settles_7 : decode cX10_settles 7 = .ok (.aload_n 0, 1) := by decide +kernel
theorem dX10_settles_8 : decode cX10_settles 8 = .ok (.getfield 29, 3) := by decide +kernel
theorem dX10_settles_11 : decode cX10_settles 11 = .ok (.aload_n 0, 1) := by decide +kernel
theorem dX10_settles_12 : decode cX10_settles 12 = .ok (.getfield 155, 3) := by decide +kernel
theorem dX10_settles_15 : decode cX10_settles 15 = .ok (.iconst 1, 1) := by decide +kernel
theorem dX10_settles_16 : decode cX10_settles 16 = .ok (.isub, 1) := by decide +kernel
theorem dX10_settles_17 : decode cX10_settles 17 = .ok (.iaload, 1) := by decide +kernel
theorem dX10_settles_18 : decode cX10_settles 18 = .ok (.invokestatic 158, 3) := by decide +kernel
theorem dX10_settles_21 : decode cX10_settles 21 = .ok (.iload_n 1, 1) := by decide +kernel
theorem dX10_settles_22 : decode cX10_settles 22 = .ok (.if_icmp .lt 54, 3) := by decide +kernel
theorem dX10_settles_25 : decode cX10_settles 25 = .ok (.aload_n 0, 1) := by decide +kernel
theorem dX10_settles_26 : decode cX10_settles 26 = .ok (.dup, 1) := by decide +kernel
theorem dX10_settles_27 : decode cX10_settles 27 = .ok (.getfield 155, 3) := by decide +kernel
theorem dX10_settles_30 : decode cX10_settles 30 = .ok (.iconst 1, 1) := by decide +kernel
theorem dX10_settles_31 : decode cX10_settles 31 = .ok (.isub, 1) := by decide +kernel
theorem dX10_settles_32 : decode cX10_settles 32 = .ok (.putfield 155, 3) := by decide +kernel
theorem dX10_settles_35 : decode cX10_settles 35 = .ok (.aload_n 0, 1) := by decide +kernel
theorem dX10_settles_36 : decode cX10_settles 36 = .ok (.aload_n 0, 1) := by decide +kernel
theorem dX10_settles_37 : decode cX10_settles 37 = .ok (.getfield 29, 3) := by decide +kernel
theorem dX10_settles_40 : decode cX10_settles 40 = .ok (.aload_n 0, 1) := by decide +kernel
theorem dX10_settles_41 : decode cX10_settles 41 = .ok (.getfield 155, 3) := by decide +kernel
theorem dX10_settles_44 : decode cX10_settles 44 = .ok (.iaload, 1) := by decide +kernel
theorem dX10_settles_45 : decode cX10_settles 45 = .ok (.iconst 0, 1) := by decide +kernel
theorem dX10_settles_46 : decode cX10_settles 46 = .ok (.invokevirtual 162, 3) := by decide +kernel
theorem dX10_settles_49 : decode cX10_settles 49 = .ok (.aload_n 0, 1) := by decide +kernel
theorem dX10_settles_50 : decode cX10_settles 50 = .ok (.getfield 29, 3) := by decide +kernel
theorem dX10_settles_53 : decode cX10_settles 53 = .ok (.aload_n 0, 1) := by decide +kernel
theorem dX10_settles_54 : decode cX10_settles 54 = .ok (.getfield 155, 3) := by decide +kernel
theorem dX10_settles_57 : decode cX10_settles 57 = .ok (.iaload, 1) := by decide +kernel
theorem dX10_settles_58 : decode cX10_settles 58 = .ok (.bipush 11, 2) := by decide +kernel
theorem dX10_settles_60 : decode cX10_settles 60 = .ok (.if_icmp .ne (-60), 3) := by decide +kernel
theorem dX10_settles_63 : decode cX10_settles 63 = .ok (.aload_n 0, 1) := by decide +kernel
theorem dX10_settles_64 : decode cX10_settles 64 = .ok (.dup, 1) := by decide +kernel
theorem dX10_settles_65 : decode cX10_settles 65 = .ok (.getfield 152, 3) := by decide +kernel
theorem dX10_settles_68 : decode cX10_settles 68 = .ok (.iconst 1, 1) := by decide +kernel
theorem dX10_settles_69 : decode cX10_settles 69 = .ok (.isub, 1) := by decide +kernel
theorem dX10_settles_70 : decode cX10_settles 70 = .ok (.putfield 152, 3) := by decide +kernel
theorem dX10_settles_73 : decode cX10_settles 73 = .ok (.goto (-73), 3) := by decide +kernel
theorem dX10_settles_76 : decode cX10_settles 76 = .ok (.return_, 1) := by decide +kernel
theorem dX10_value_0 : decode cX10_value 0 = .ok (.aload_n 0, 1) := by decide +kernel
theorem dX10_value_1 : decode cX10_value 1 = .ok (.invokevirtual 93, 3) := by decide +kernel
theorem dX10_value_4 : decode cX10_value 4 = .ok (.pop, 1) := by decide +kernel
theorem dX10_value_5 : decode cX10_value 5 = .ok (.aload_n 0, 1) := by decide +kernel
theorem dX10_value_6 : decode cX10_value 6 = .ok (.getfield 90, 3) := by decide +kernel
theorem dX10_value_9 : decode cX10_value 9 = .ok (.istore_n 1, 1) := by decide +kernel
theorem dX10_value_10 : decode cX10_value 10 = .ok (.aload_n 0, 1) := by decide +kernel
theorem dX10_value_11 : decode cX10_value 11 = .ok (.aload_n 0, 1) := by decide +kernel
theorem dX10_value_12 : decode cX10_value 12 = .ok (.getfield 90, 3) := by decide +kernel
theorem dX10_value_15 : decode cX10_value 15 = .ok (.invokevirtual 108, 3) := by decide +kernel
theorem dX10_value_18 : decode cX10_value 18 = .ok (.ifCond .eq 34, 3) := by decide +kernel
theorem dX10_value_21 : decode cX10_value 21 = .ok (.aload_n 0, 1) := by decide +kernel
theorem dX10_value_22 : decode cX10_value 22 = .ok (.iconst 0, 1) := by decide +kernel
theorem dX10_value_23 : decode cX10_value 23 = .ok (.ldc 166, 2) := by decide +kernel
theorem dX10_value_25 : decode cX10_value 25 = .ok (.invokevirtual 167, 3) := by decide +kernel
theorem dX10_value_28 : decode cX10_value 28 = .ok (.ifCond .eq 11, 3) := by decide +kernel
theorem dX10_value_31 : decode cX10_value 31 = .ok (.aload_n 0, 1) := by decide +kernel
theorem dX10_value_32 : decode cX10_value 32 = .ok (.iload_n 1, 1) := by decide +kernel
theorem dX10_value_33 : decode cX10_value 33 = .ok (.invokevirtual 170, 3) := by decide +kernel
theorem dX10_value_36 : decode cX10_value 36 = .ok (.ifCond .ne 5, 3) := by decide +kernel
theorem dX10_value_39 : decode cX10_value 39 = .ok (.iconst 0, 1) := by decide +kernel
theorem dX10_value_40 : decode cX10_value 40 = .ok (.ireturn, 1) := by decide +kernel
theorem dX10_value_41 : decode cX10_value 41 = .ok (.aload_n 0, 1) := by decide +kernel
theorem dX10_value_42 : decode cX10_value 42 = .ok (.iconst 0, 1) := by decide +kernel
theorem dX10_value_43 : decode cX10_value 43 = .ok (.aload_n 0, 1) := by decide +kernel
theorem dX10_value_44 : decode cX10_value 44 = .ok (.getfield 115, 3) := by decide +kernel
theorem dX10_value_47 : decode cX10_value 47 = .ok (.invokevirtual 162, 3) := by decide +kernel
theorem dX10_value_50 : decode cX10_value 50 = .ok (.iconst 1, 1) := by decide +kernel
theorem dX10_value_51 : decode cX10_value 51 = .ok (.ireturn, 1) := by decide +kernel
theorem dX10_value_52 : decode cX10_value 52 = .ok (.aload_n 0, 1) := by decide +kernel
theorem dX10_value_53 : decode cX10_value 53 = .ok (.invokevirtual 173, 3) := by decide +kernel
theorem dX10_value_56 : decode cX10_value 56 = .ok (.istore_n 2, 1) := by decide +kernel
theorem dX10_value_57 : decode cX10_value 57 = .ok (.iload_n 2, 1) := by decide +kernel
theorem dX10_value_58 : decode cX10_value 58 = .ok (.ifCond .ge 10, 3) := by decide +kernel
theorem dX10_value_61 : decode cX10_value 61 = .ok (.aload_n 0, 1) := by decide +kernel
theorem dX10_value_62 : decode cX10_value 62 = .ok (.iconst 0, 1) := by decide +kernel
theorem dX10_value_63 : decode cX10_value 63 = .ok (.iload_n 1, 1) := by decide +kernel
theorem dX10_value_64 : decode cX10_value 64 = .ok (.invokevirtual 111, 3) := by decide +kernel
theorem dX10_value_67 : decode cX10_value 67 = .ok (.ireturn, 1) := by decide +kernel
theorem dX10_value_68 : decode cX10_value 68 = .ok (.aload_n 0, 1) := by decide +kernel
theorem dX10_value_69 : decode cX10_value 69 = .ok (.iload_n 1, 1) := by decide +kernel
theorem dX10_value_70 : decode cX10_value 70 = .ok (.invokevirtual 170, 3) := by decide +kernel
theorem dX10_value_73 : decode cX10_value 73 = .ok (.ifCond .ne 5, 3) := by decide +kernel
theorem dX10_value_76 : decode cX10_value 76 = .ok (.iconst 0, 1) := by decide +kernel
theorem dX10_value_77 : decode cX10_value 77 = .ok (.ireturn, 1) := by decide +kernel
theorem dX10_value_78 : decode cX10_value 78 = .ok (.aload_n 0, 1) := by decide +kernel
theorem dX10_value_79 : decode cX10_value 79 = .ok (.invokevirtual 105, 3) := by decide +kernel
theorem dX10_value_82 : decode cX10_value 82 = .ok (.aload_n 0, 1) := by decide +kernel
theorem dX10_value_83 : decode cX10_value 83 = .ok (.iconst 1, 1) := by decide +kernel
theorem dX10_value_84 : decode cX10_value 84 = .ok (.iload_n 2, 1) := by decide +kernel
theorem dX10_value_85 : decode cX10_value 85 = .ok (.invokevirtual 162, 3) := by decide +kernel
theorem dX10_value_88 : decode cX10_value 88 = .ok (.iconst 1, 1) := by decide +kernel
theorem dX10_value_89 : decode cX10_value 89 = .ok (.ireturn, 1) := by decide +kernel
theorem dX10_term_0 : decode cX10_term 0 = .ok (.aload_n 0, 1) := by decide +kernel
theorem dX10_term_1 : decode cX10_term 1 = .ok (.invokevirtual 176, 3) := by decide +kernel
theorem dX10_term_4 : decode cX10_term 4 = .ok (.ifCond .ne 5, 3) := by decide +kernel
theorem dX10_term_7 : decode cX10_term 7 = .ok (.iconst 0, 1) := by decide +kernel
theorem dX10_term_8 : decode cX10_term 8 = .ok (.ireturn, 1) := by decide +kernel
theorem dX10_term_9 : decode cX10_term 9 = .ok (.aload_n 0, 1) := by decide +kernel
theorem dX10_term_10 : decode cX10_term 10 = .ok (.invokevirtual 93, 3) := by decide +kernel
theorem dX10_term_13 : decode cX10_term 13 = .ok (.bipush 42, 2) := by decide +kernel
theorem dX10_term_15 : decode cX10_term 15 = .ok (.if_icmp .eq 21, 3) := by decide +kernel
theorem dX10_term_18 : decode cX10_term 18 = .ok (.aload_n 0, 1) := by decide +kernel
theorem dX10_term_19 : decode cX10_term 19 = .ok (.invokevirtual 93, 3) := by decide +kernel
theorem dX10_term_22 : decode cX10_term 22 = .ok (.bipush 47, 2) := by decide +kernel
theorem dX10_term_24 : decode cX10_term 24 = .ok (.if_icmp .eq 12, 3) := by decide +kernel
theorem dX10_term_27 : decode cX10_term 27 = .ok (.aload_n 0, 1) := by decide +kernel
theorem dX10_term_28 : decode cX10_term 28 = .ok (.invokevirtual 93, 3) := by decide +kernel
theorem dX10_term_31 : decode cX10_term 31 = .ok (.bipush 37, 2) := by decide +kernel
theorem dX10_term_33 : decode cX10_term 33 = .ok (.if_icmp .ne 70, 3) := by decide +kernel
theorem dX10_term_36 : decode cX10_term 36 = .ok (.aload_n 0, 1) := by decide +kernel
theorem dX10_term_37 : decode cX10_term 37 = .ok (.getfield 7, 3) := by decide +kernel
theorem dX10_term_40 : decode cX10_term 40 = .ok (.aload_n 0, 1) := by decide +kernel
theorem dX10_term_41 : decode cX10_term 41 = .ok (.getfield 90, 3) := by decide +kernel
theorem dX10_term_44 : decode cX10_term 44 = .ok (.baload, 1) := by decide +kernel
theorem dX10_term_45 : decode cX10_term 45 = .ok (.bipush 42, 2) := by decide +kernel
theorem dX10_term_47 : decode cX10_term 47 = .ok (.if_icmp .ne 7, 3) := by decide +kernel
theorem dX10_term_50 : decode cX10_term 50 = .ok (.iconst 4, 1) := by decide +kernel
theorem dX10_term_51 : decode cX10_term 51 = .ok (.goto 23, 3) := by decide +kernel
theorem dX10_term_54 : decode cX10_term 54 = .ok (.aload_n 0, 1) := by decide +kernel
theorem dX10_term_55 : decode cX10_term 55 = .ok (.getfield 7, 3) := by decide +kernel
theorem dX10_term_58 : decode cX10_term 58 = .ok (.aload_n 0, 1) := by decide +kernel
theorem dX10_term_59 : decode cX10_term 59 = .ok (.getfield 90, 3) := by decide +kernel
theorem dX10_term_62 : decode cX10_term 62 = .ok (.baload, 1) := by decide +kernel
theorem dX10_term_63 : decode cX10_term 63 = .ok (.bipush 47, 2) := by decide +kernel
theorem dX10_term_65 : decode cX10_term 65 = .ok (.if_icmp .ne 7, 3) := by decide +kernel
theorem dX10_term_68 : decode cX10_term 68 = .ok (.iconst 5, 1) := by decide +kernel
theorem dX10_term_69 : decode cX10_term 69 = .ok (.goto 5, 3) := by decide +kernel
theorem dX10_term_72 : decode cX10_term 72 = .ok (.bipush 14, 2) := by decide +kernel
theorem dX10_term_74 : decode cX10_term 74 = .ok (.istore_n 1, 1) := by decide +kernel
theorem dX10_term_75 : decode cX10_term 75 = .ok (.aload_n 0, 1) := by decide +kernel
theorem dX10_term_76 : decode cX10_term 76 = .ok (.dup, 1) := by decide +kernel
theorem dX10_term_77 : decode cX10_term 77 = .ok (.getfield 90, 3) := by decide +kernel
theorem dX10_term_80 : decode cX10_term 80 = .ok (.iconst 1, 1) := by decide +kernel
theorem dX10_term_81 : decode cX10_term 81 = .ok (.iadd, 1) := by decide +kernel
theorem dX10_term_82 : decode cX10_term 82 = .ok (.putfield 90, 3) := by decide +kernel
theorem dX10_term_85 : decode cX10_term 85 = .ok (.aload_n 0, 1) := by decide +kernel
theorem dX10_term_86 : decode cX10_term 86 = .ok (.invokevirtual 176, 3) := by decide +kernel
theorem dX10_term_89 : decode cX10_term 89 = .ok (.ifCond .ne 5, 3) := by decide +kernel
theorem dX10_term_92 : decode cX10_term 92 = .ok (.iconst 0, 1) := by decide +kernel
theorem dX10_term_93 : decode cX10_term 93 = .ok (.ireturn, 1) := by decide +kernel
theorem dX10_term_94 : decode cX10_term 94 = .ok (.aload_n 0, 1) := by decide +kernel
theorem dX10_term_95 : decode cX10_term 95 = .ok (.iload_n 1, 1) := by decide +kernel
theorem dX10_term_96 : decode cX10_term 96 = .ok (.iconst 0, 1) := by decide +kernel
theorem dX10_term_97 : decode cX10_term 97 = .ok (.invokevirtual 162, 3) := by decide +kernel
theorem dX10_term_100 : decode cX10_term 100 = .ok (.goto (-91), 3) := by decide +kernel
theorem dX10_term_103 : decode cX10_term 103 = .ok (.iconst 1, 1) := by decide +kernel
theorem dX10_term_104 : decode cX10_term 104 = .ok (.ireturn, 1) := by decide +kernel
theorem dX10_sum_0 : decode cX10_sum 0 = .ok (.aload_n 0, 1) := by decide +kernel
theorem dX10_sum_1 : decode cX10_sum 1 = .ok (.invokevirtual 180, 3) := by decide +kernel
theorem dX10_sum_4 : decode cX10_sum 4 = .ok (.ifCond .ne 5, 3) := by decide +kernel
theorem dX10_sum_7 : decode cX10_sum 7 = .ok (.iconst 0, 1) := by decide +kernel
theorem dX10_sum_8 : decode cX10_sum 8 = .ok (.ireturn, 1) := by decide +kernel
theorem dX10_sum_9 : decode cX10_sum 9 = .ok (.aload_n 0, 1) := by decide +kernel
theorem dX10_sum_10 : decode cX10_sum 10 = .ok (.invokevirtual 93, 3) := by decide +kernel
theorem dX10_sum_13 : decode cX10_sum 13 = .ok (.bipush 43, 2) := by decide +kernel
theorem dX10_sum_15 : decode cX10_sum 15 = .ok (.if_icmp .eq 12, 3) := by decide +kernel
theorem dX10_sum_18 : decode cX10_sum 18 = .ok (.aload_n 0, 1) := by decide +kernel
theorem dX10_sum_19 : decode cX10_sum 19 = .ok (.invokevirtual 93, 3) := by decide +kernel
theorem dX10_sum_22 : decode cX10_sum 22 = .ok (.bipush 45, 2) := by decide +kernel
theorem dX10_sum_24 : decode cX10_sum 24 = .ok (.if_icmp .ne 51, 3) := by decide +kernel
theorem dX10_sum_27 : decode cX10_sum 27 = .ok (.aload_n 0, 1) := by decide +kernel
theorem dX10_sum_28 : decode cX10_sum 28 = .ok (.getfield 7, 3) := by decide +kernel
theorem dX10_sum_31 : decode cX10_sum 31 = .ok (.aload_n 0, 1) := by decide +kernel
theorem dX10_sum_32 : decode cX10_sum 32 = .ok (.getfield 90, 3) := by decide +kernel
theorem dX10_sum_35 : decode cX10_sum 35 = .ok (.baload, 1) := by decide +kernel
theorem dX10_sum_36 : decode cX10_sum 36 = .ok (.bipush 43, 2) := by decide +kernel
theorem dX10_sum_38 : decode cX10_sum 38 = .ok (.if_icmp .ne 7, 3) := by decide +kernel
theorem dX10_sum_41 : decode cX10_sum 41 = .ok (.iconst 2, 1) := by decide +kernel
theorem dX10_sum_42 : decode cX10_sum 42 = .ok (.goto 4, 3) := by decide +kernel
theorem dX10_sum_45 : decode cX10_sum 45 = .ok (.iconst 3, 1) := by decide +kernel
theorem dX10_sum_46 : decode cX10_sum 46 = .ok (.istore_n 1, 1) := by decide +kernel
theorem dX10_sum_47 : decode cX10_sum 47 = .ok (.aload_n 0, 1) := by decide +kernel
theorem dX10_sum_48 : decode cX10_sum 48 = .ok (.dup, 1) := by decide +kernel
theorem dX10_sum_49 : decode cX10_sum 49 = .ok (.getfield 90, 3) := by decide +kernel
theorem dX10_sum_52 : decode cX10_sum 52 = .ok (.iconst 1, 1) := by decide +kernel
theorem dX10_sum_53 : decode cX10_sum 53 = .ok (.iadd, 1) := by decide +kernel
theorem dX10_sum_54 : decode cX10_sum 54 = .ok (.putfield 90, 3) := by decide +kernel
theorem dX10_sum_57 : decode cX10_sum 57 = .ok (.aload_n 0, 1) := by decide +kernel
theorem dX10_sum_58 : decode cX10_sum 58 = .ok (.invokevirtual 180, 3) := by decide +kernel
theorem dX10_sum_61 : decode cX10_sum 61 = .ok (.ifCond .ne 5, 3) := by decide +kernel
theorem dX10_sum_64 : decode cX10_sum 64 = .ok (.iconst 0, 1) := by decide +kernel
theorem dX10_sum_65 : decode cX10_sum 65 = .ok (.ireturn, 1) := by decide +kernel
theorem dX10_sum_66 : decode cX10_sum 66 = .ok (.aload_n 0, 1) := by decide +kernel
theorem dX10_sum_67 : decode cX10_sum 67 = .ok (.iload_n 1, 1) := by decide +kernel
theorem dX10_sum_68 : decode cX10_sum 68 = .ok (.iconst 0, 1) := by decide +kernel
theorem dX10_sum_69 : decode cX10_sum 69 = .ok (.invokevirtual 162, 3) := by decide +kernel
theorem dX10_sum_72 : decode cX10_sum 72 = .ok (.goto (-63), 3) := by decide +kernel
theorem dX10_sum_75 : decode cX10_sum 75 = .ok (.iconst 1, 1) := by decide +kernel
theorem dX10_sum_76 : decode cX10_sum 76 = .ok (.ireturn, 1) := by decide +kernel
theorem dX10_compare_0 : decode cX10_compare 0 = .ok (.aload_n 0, 1) := by decide +kernel
theorem dX10_compare_1 : decode cX10_compare 1 = .ok (.invokevirtual 183, 3) := by decide +kernel
theorem dX10_compare_4 : decode cX10_compare 4 = .ok (.ifCond .ne 5, 3) := by decide +kernel
theorem dX10_compare_7 : decode cX10_compare 7 = .ok (.iconst 0, 1) := by decide +kernel
theorem dX10_compare_8 : decode cX10_compare 8 = .ok (.ireturn, 1) := by decide +kernel
theorem dX10_compare_9 : decode cX10_compare 9 = .ok (.aload_n 0, 1) := by decide +kernel
theorem dX10_compare_10 : decode cX10_compare 10 = .ok (.invokevirtual 93, 3) := by decide +kernel
theorem dX10_compare_13 : decode cX10_compare 13 = .ok (.istore_n 1, 1) := by decide +kernel
theorem dX10_compare_14 : decode cX10_compare 14 = .ok (.aload_n 0, 1) := by decide +kernel
theorem dX10_compare_15 : decode cX10_compare 15 = .ok (.getfield 90, 3) := by decide +kernel
theorem dX10_compare_18 : decode cX10_compare 18 = .ok (.istore_n 2, 1) := by decide +kernel
theorem dX10_compare_19 : decode cX10_compare 19 = .ok (.iload_n 1, 1) := by decide +kernel
theorem dX10_compare_20 : decode cX10_compare 20 = .ok (.bipush 60, 2) := by decide +kernel
theorem dX10_compare_22 : decode cX10_compare 22 = .ok (.if_icmp .eq 22, 3) := by decide +kernel
theorem dX10_compare_25 : decode cX10_compare 25 = .ok (.iload_n 1, 1) := by decide +kernel
theorem dX10_compare_26 : decode cX10_compare 26 = .ok (.bipush 61, 2) := by decide +kernel
theorem dX10_compare_28 : decode cX10_compare 28 = .ok (.if_icmp .eq 16, 3) := by decide +kernel
theorem dX10_compare_31 : decode cX10_compare 31 = .ok (.iload_n 1, 1) := by decide +kernel
theorem dX10_compare_32 : decode cX10_compare 32 = .ok (.bipush 62, 2) := by decide +kernel
theorem dX10_compare_34 : decode cX10_compare 34 = .ok (.if_icmp .eq 10, 3) := by decide +kernel
theorem dX10_compare_37 : decode cX10_compare 37 = .ok (.aload_n 0, 1) := by decide +kernel
theorem dX10_compare_38 : decode cX10_compare 38 = .ok (.iconst 0, 1) := by decide +kernel
theorem dX10_compare_39 : decode cX10_compare 39 = .ok (.iload_n 2, 1) := by decide +kernel
theorem dX10_compare_40 : decode cX10_compare 40 = .ok (.invokevirtual 111, 3) := by decide +kernel
theorem dX10_compare_43 : decode cX10_compare 43 = .ok (.ireturn, 1) := by decide +kernel
theorem dX10_compare_44 : decode cX10_compare 44 = .ok (.aload_n 0, 1) := by decide +kernel
theorem dX10_compare_45 : decode cX10_compare 45 = .ok (.dup, 1) := by decide +kernel
theorem dX10_compare_46 : decode cX10_compare 46 = .ok (.getfield 90, 3) := by decide +kernel
theorem dX10_compare_49 : decode cX10_compare 49 = .ok (.iconst 1, 1) := by decide +kernel
theorem dX10_compare_50 : decode cX10_compare 50 = .ok (.iadd, 1) := by decide +kernel
theorem dX10_compare_51 : decode cX10_compare 51 = .ok (.putfield 90, 3) := by decide +kernel
theorem dX10_compare_54 : decode cX10_compare 54 = .ok (.iload_n 1, 1) := by decide +kernel
theorem dX10_compare_55 : decode cX10_compare 55 = .ok (.bipush 61, 2) := by decide +kernel
theorem dX10_compare_57 : decode cX10_compare 57 = .ok (.if_icmp .eq 32, 3) := by decide +kernel
theorem dX10_compare_60 : decode cX10_compare 60 = .ok (.aload_n 0, 1) := by decide +kernel
theorem dX10_compare_61 : decode cX10_compare 61 = .ok (.getfield 90, 3) := by decide +kernel
theorem dX10_compare_64 : decode cX10_compare 64 = .ok (.aload_n 0, 1) := by decide +kernel
theorem dX10_compare_65 : decode cX10_compare 65 = .ok (.getfield 79, 3) := by decide +kernel
theorem dX10_compare_68 : decode cX10_compare 68 = .ok (.if_icmp .ge 21, 3) := by decide +kernel
theorem dX10_compare_71 : decode cX10_compare 71 = .ok (.aload_n 0, 1) := by decide +kernel
theorem dX10_compare_72 : decode cX10_compare 72 = .ok (.getfield 7, 3) := by decide +kernel
theorem dX10_compare_75 : decode cX10_compare 75 = .ok (.aload_n 0, 1) := by decide +kernel
theorem dX10_compare_76 : decode cX10_compare 76 = .ok (.getfield 90, 3) := by decide +kernel
theorem dX10_compare_79 : decode cX10_compare 79 = .ok (.baload, 1) := by decide +kernel
theorem dX10_compare_80 : decode cX10_compare 80 = .ok (.bipush 61, 2) := by decide +kernel
theorem dX10_compare_82 : decode cX10_compare 82 = .ok (.if_icmp .ne 7, 3) := by decide +kernel
theorem dX10_compare_85 : decode cX10_compare 85 = .ok (.iconst 1, 1) := by decide +kernel
theorem dX10_compare_86 : decode cX10_compare 86 = .ok (.goto 4, 3) := by decide +kernel
theorem dX10_compare_89 : decode cX10_compare 89 = .ok (.iconst 0, 1) := by decide +kernel
theorem dX10_compare_90 : decode cX10_compare 90 = .ok (.istore_n 3, 1) := by decide +kernel
theorem dX10_compare_91 : decode cX10_compare 91 = .ok (.iload_n 3, 1) := by decide +kernel
theorem dX10_compare_92 : decode cX10_compare 92 = .ok (.ifCond .eq 13, 3) := by decide +kernel
theorem dX10_compare_95 : decode cX10_compare 95 = .ok (.aload_n 0, 1) := by decide +kernel
theorem dX10_compare_96 : decode cX10_compare 96 = .ok (.dup, 1) := by decide +kernel
theorem dX10_compare_97 : decode cX10_compare 97 = .ok (.getfield 90, 3) := by decide +kernel
theorem dX10_compare_100 : decode cX10_compare 100 = .ok (.iconst 1, 1) := by decide +kernel
theorem dX10_compare_101 : decode cX10_compare 101 = .ok (.iadd, 1) := by decide +kernel
theorem dX10_compare_102 : decode cX10_compare 102 = .ok (.putfield 90, 3) := by decide +kernel
theorem dX10_compare_105 : decode cX10_compare 105 = .ok (.aload_n 0, 1) := by decide +kernel
theorem dX10_compare_106 : decode cX10_compare 106 = .ok (.iload_n 2, 1) := by decide +kernel
theorem dX10_compare_107 : decode cX10_compare 107 = .ok (.invokevirtual 170, 3) := by decide +kernel
theorem dX10_compare_110 : decode cX10_compare 110 = .ok (.ifCond .ne 5, 3) := by decide +kernel
theorem dX10_compare_113 : decode cX10_compare 113 = .ok (.iconst 0, 1) := by decide +kernel
theorem dX10_compare_114 : decode cX10_compare 114 = .ok (.ireturn, 1) := by decide +kernel
theorem dX10_compare_115 : decode cX10_compare 115 = .ok (.iload_n 1, 1) := by decide +kernel
theorem dX10_compare_116 : decode cX10_compare 116 = .ok (.bipush 60, 2) := by decide +kernel
theorem dX10_compare_118 : decode cX10_compare 118 = .ok (.if_icmp .ne 15, 3) := by decide +kernel
theorem dX10_compare_121 : decode cX10_compare 121 = .ok (.iload_n 3, 1) := by decide +kernel
theorem dX10_compare_122 : decode cX10_compare 122 = .ok (.ifCond .eq 7, 3) := by decide +kernel
theorem dX10_compare_125 : decode cX10_compare 125 = .ok (.iconst 1, 1) := by decide +kernel
theorem dX10_compare_126 : decode cX10_compare 126 = .ok (.goto 26, 3) := by decide +kernel
theorem dX10_compare_129 : decode cX10_compare 129 = .ok (.iconst 0, 1) := by decide +kernel
theorem dX10_compare_130 : decode cX10_compare 130 = .ok (.goto 22, 3) := by decide +kernel
theorem dX10_compare_133 : decode cX10_compare 133 = .ok (.iload_n 1, 1) := by decide +kernel
theorem dX10_compare_134 : decode cX10_compare 134 = .ok (.bipush 61, 2) := by decide +kernel
theorem dX10_compare_136 : decode cX10_compare 136 = .ok (.if_icmp .ne 7, 3) := by decide +kernel
theorem dX10_compare_139 : decode cX10_compare 139 = .ok (.iconst 2, 1) := by decide +kernel
theorem dX10_compare_140 : decode cX10_compare 140 = .ok (.goto 12, 3) := by decide +kernel
theorem dX10_compare_143 : decode cX10_compare 143 = .ok (.iload_n 3, 1) := by decide +kernel
theorem dX10_compare_144 : decode cX10_compare 144 = .ok (.ifCond .eq 7, 3) := by decide +kernel
theorem dX10_compare_147 : decode cX10_compare 147 = .ok (.iconst 3, 1) := by decide +kernel
theorem dX10_compare_148 : decode cX10_compare 148 = .ok (.goto 4, 3) := by decide +kernel
theorem dX10_compare_151 : decode cX10_compare 151 = .ok (.iconst 4, 1) := by decide +kernel
theorem dX10_compare_152 : decode cX10_compare 152 = .ok (.istore 4, 2) := by decide +kernel
theorem dX10_compare_154 : decode cX10_compare 154 = .ok (.aload_n 0, 1) := by decide +kernel
theorem dX10_compare_155 : decode cX10_compare 155 = .ok (.invokevirtual 183, 3) := by decide +kernel
theorem dX10_compare_158 : decode cX10_compare 158 = .ok (.ifCond .ne 5, 3) := by decide +kernel
theorem dX10_compare_161 : decode cX10_compare 161 = .ok (.iconst 0, 1) := by decide +kernel
theorem dX10_compare_162 : decode cX10_compare 162 = .ok (.ireturn, 1) := by decide +kernel
theorem dX10_compare_163 : decode cX10_compare 163 = .ok (.aload_n 0, 1) := by decide +kernel
theorem dX10_compare_164 : decode cX10_compare 164 = .ok (.bipush 6, 2) := by decide +kernel
theorem dX10_compare_166 : decode cX10_compare 166 = .ok (.iload 4, 2) := by decide +kernel
theorem dX10_compare_168 : decode cX10_compare 168 = .ok (.iadd, 1) := by decide +kernel
theorem dX10_compare_169 : decode cX10_compare 169 = .ok (.iconst 0, 1) := by decide +kernel
theorem dX10_compare_170 : decode cX10_compare 170 = .ok (.invokevirtual 162, 3) := by decide +kernel
theorem dX10_compare_173 : decode cX10_compare 173 = .ok (.iconst 1, 1) := by decide +kernel
theorem dX10_compare_174 : decode cX10_compare 174 = .ok (.ireturn, 1) := by decide +kernel
theorem dX10_fact_0 : decode cX10_fact 0 = .ok (.iconst 1, 1) := by decide +kernel
theorem dX10_fact_1 : decode cX10_fact 1 = .ok (.istore_n 1, 1) := by decide +kernel
theorem dX10_fact_2 : decode cX10_fact 2 = .ok (.iload_n 1, 1) := by decide +kernel
theorem dX10_fact_3 : decode cX10_fact 3 = .ok (.ifCond .eq 72, 3) := by decide +kernel
theorem dX10_fact_6 : decode cX10_fact 6 = .ok (.iconst 0, 1) := by decide +kernel
theorem dX10_fact_7 : decode cX10_fact 7 = .ok (.istore_n 1, 1) := by decide +kernel
theorem dX10_fact_8 : decode cX10_fact 8 = .ok (.aload_n 0, 1) := by decide +kernel
theorem dX10_fact_9 : decode cX10_fact 9 = .ok (.invokevirtual 93, 3) := by decide +kernel
theorem dX10_fact_12 : decode cX10_fact 12 = .ok (.istore_n 2, 1) := by decide +kernel
theorem dX10_fact_13 : decode cX10_fact 13 = .ok (.aload_n 0, 1) := by decide +kernel
theorem dX10_fact_14 : decode cX10_fact 14 = .ok (.ldc2_w 186, 3) := by decide +kernel
theorem dX10_fact_17 : decode cX10_fact 17 = .ok (.invokevirtual 101, 3) := by decide +kernel
theorem dX10_fact_20 : decode cX10_fact 20 = .ok (.ifCond .eq 23, 3) := by decide +kernel
theorem dX10_fact_23 : decode cX10_fact 23 = .ok (.aload_n 0, 1) := by decide +kernel
theorem dX10_fact_24 : decode cX10_fact 24 = .ok (.bipush 11, 2) := by decide +kernel
theorem dX10_fact_26 : decode cX10_fact 26 = .ok (.invokevirtual 188, 3) := by decide +kernel
theorem dX10_fact_29 : decode cX10_fact 29 = .ok (.ifCond .ne 5, 3) := by decide +kernel
theorem dX10_fact_32 : decode cX10_fact 32 = .ok (.iconst 0, 1) := by decide +kernel
theorem dX10_fact_33 : decode cX10_fact 33 = .ok (.ireturn, 1) := by decide +kernel
theorem dX10_fact_34 : decode cX10_fact 34 = .ok (.aload_n 0, 1) := by decide +kernel
theorem dX10_fact_35 : decode cX10_fact 35 = .ok (.invokevirtual 105, 3) := by decide +kernel
theorem dX10_fact_38 : decode cX10_fact 38 = .ok (.iconst 1, 1) := by decide +kernel
theorem dX10_fact_39 : decode cX10_fact 39 = .ok (.istore_n 1, 1) := by decide +kernel
theorem dX10_fact_40 : decode cX10_fact 40 = .ok (.goto 32, 3) := by decide +kernel
theorem dX10_fact_43 : decode cX10_fact 43 = .ok (.iload_n 2, 1) := by decide +kernel
theorem dX10_fact_44 : decode cX10_fact 44 = .ok (.bipush 91, 2) := by decide +kernel
theorem dX10_fact_46 : decode cX10_fact 46 = .ok (.if_icmp .ne 26, 3) := by decide +kernel
theorem dX10_fact_49 : decode cX10_fact 49 = .ok (.aload_n 0, 1) := by decide +kernel
theorem dX10_fact_50 : decode cX10_fact 50 = .ok (.bipush 91, 2) := by decide +kernel
theorem dX10_fact_52 : decode cX10_fact 52 = .ok (.invokevirtual 188, 3) := by decide +kernel
theorem dX10_fact_55 : decode cX10_fact 55 = .ok (.ifCond .ne 5, 3) := by decide +kernel
theorem dX10_fact_58 : decode cX10_fact 58 = .ok (.iconst 0, 1) := by decide +kernel
theorem dX10_fact_59 : decode cX10_fact 59 = .ok (.ireturn, 1) := by decide +kernel
theorem dX10_fact_60 : decode cX10_fact 60 = .ok (.aload_n 0, 1) := by decide +kernel
theorem dX10_fact_61 : decode cX10_fact 61 = .ok (.dup, 1) := by decide +kernel
theorem dX10_fact_62 : decode cX10_fact 62 = .ok (.getfield 90, 3) := by decide +kernel
theorem dX10_fact_65 : decode cX10_fact 65 = .ok (.iconst 1, 1) := by decide +kernel
theorem dX10_fact_66 : decode cX10_fact 66 = .ok (.iadd, 1) := by decide +kernel
theorem dX10_fact_67 : decode cX10_fact 67 = .ok (.putfield 90, 3) := by decide +kernel
theorem dX10_fact_70 : decode cX10_fact 70 = .ok (.iconst 1, 1) := by decide +kernel
theorem dX10_fact_71 : decode cX10_fact 71 = .ok (.istore_n 1, 1) := by decide +kernel
theorem dX10_fact_72 : decode cX10_fact 72 = .ok (.goto (-70), 3) := by decide +kernel
theorem dX10_fact_75 : decode cX10_fact 75 = .ok (.aload_n 0, 1) := by decide +kernel
theorem dX10_fact_76 : decode cX10_fact 76 = .ok (.invokevirtual 191, 3) := by decide +kernel
theorem dX10_fact_79 : decode cX10_fact 79 = .ok (.ireturn, 1) := by decide +kernel
theorem dX10_isInside_0 : decode cX10_isInside 0 = .ok (.iconst 0, 1) := by decide +kernel
theorem dX10_isInside_1 : decode cX10_isInside 1 = .ok (.istore_n 1, 1) := by decide +kernel
theorem dX10_isInside_2 : decode cX10_isInside 2 = .ok (.iload_n 1, 1) := by decide +kernel
theorem dX10_isInside_3 : decode cX10_isInside 3 = .ok (.aload_n 0, 1) := by decide +kernel
theorem dX10_isInside_4 : decode cX10_isInside 4 = .ok (.getfield 155, 3) := by decide +kernel
theorem dX10_isInside_7 : decode cX10_isInside 7 = .ok (.if_icmp .ge 22, 3) := by decide +kernel
theorem dX10_isInside_10 : decode cX10_isInside 10 = .ok (.aload_n 0, 1) := by decide +kernel
theorem dX10_isInside_11 : decode cX10_isInside 11 = .ok (.getfield 29, 3) := by decide +kernel
theorem dX10_isInside_14 : decode cX10_isInside 14 = .ok (.iload_n 1, 1) := by decide +kernel
theorem dX10_isInside_15 : decode cX10_isInside 15 = .ok (.iaload, 1) := by decide +kernel
theorem dX10_isInside_16 : decode cX10_isInside 16 = .ok (.bipush 91, 2) := by decide +kernel
theorem dX10_isInside_18 : decode cX10_isInside 18 = .ok (.if_icmp .ne 5, 3) := by decide +kernel
theorem dX10_isInside_21 : decode cX10_isInside 21 = .ok (.iconst 1, 1) := by decide +kernel
theorem dX10_isInside_22 : decode cX10_isInside 22 = .ok (.ireturn, 1) := by decide +kernel
theorem dX10_isInside_23 : decode cX10_isInside 23 = .ok (.iinc 1 1, 3) := by decide +kernel
theorem dX10_isInside_26 : decode cX10_isInside 26 = .ok (.goto (-24), 3) := by decide +kernel
theorem dX10_isInside_29 : decode cX10_isInside 29 = .ok (.iconst 0, 1) := by decide +kernel
theorem dX10_isInside_30 : decode cX10_isInside 30 = .ok (.ireturn, 1) := by decide +kernel
theorem dX10_closes_0 : decode cX10_closes 0 = .ok (.aload_n 0, 1) := by decide +kernel
theorem dX10_closes_1 : decode cX10_closes 1 = .ok (.iconst 3, 1) := by decide +kernel
theorem dX10_closes_2 : decode cX10_closes 2 = .ok (.invokevirtual 194, 3) := by decide +kernel
theorem dX10_closes_5 : decode cX10_closes 5 = .ok (.aload_n 0, 1) := by decide +kernel
theorem dX10_closes_6 : decode cX10_closes 6 = .ok (.invokevirtual 93, 3) := by decide +kernel
theorem dX10_closes_9 : decode cX10_closes 9 = .ok (.bipush 93, 2) := by decide +kernel
theorem dX10_closes_11 : decode cX10_closes 11 = .ok (.if_icmp .ne 53, 3) := by decide +kernel
theorem dX10_closes_14 : decode cX10_closes 14 = .ok (.aload_n 0, 1) := by decide +kernel
theorem dX10_closes_15 : decode cX10_closes 15 = .ok (.invokevirtual 197, 3) := by decide +kernel
theorem dX10_closes_18 : decode cX10_closes 18 = .ok (.ifCond .eq 46, 3) := by decide +kernel
theorem dX10_closes_21 : decode cX10_closes 21 = .ok (.aload_n 0, 1) := by decide +kernel
theorem dX10_closes_22 : decode cX10_closes 22 = .ok (.iconst 1, 1) := by decide +kernel
theorem dX10_closes_23 : decode cX10_closes 23 = .ok (.invokevirtual 194, 3) := by decide +kernel
theorem dX10_closes_26 : decode cX10_closes 26 = .ok (.aload_n 0, 1) := by decide +kernel
theorem dX10_closes_27 : decode cX10_closes 27 = .ok (.dup, 1) := by decide +kernel
theorem dX10_closes_28 : decode cX10_closes 28 = .ok (.getfield 155, 3) := by decide +kernel
theorem dX10_closes_31 : decode cX10_closes 31 = .ok (.iconst 1, 1) := by decide +kernel
theorem dX10_closes_32 : decode cX10_closes 32 = .ok (.isub, 1) := by decide +kernel
theorem dX10_closes_33 : decode cX10_closes 33 = .ok (.putfield 155, 3) := by decide +kernel
theorem dX10_closes_36 : decode cX10_closes 36 = .ok (.aload_n 0, 1) := by decide +kernel
theorem dX10_closes_37 : decode cX10_closes 37 = .ok (.dup, 1) := by decide +kernel
theorem dX10_closes_38 : decode cX10_closes 38 = .ok (.getfield 152, 3) := by decide +kernel
theorem dX10_closes_41 : decode cX10_closes 41 = .ok (.iconst 1, 1) := by decide +kernel
theorem dX10_closes_42 : decode cX10_closes 42 = .ok (.isub, 1) := by decide +kernel
theorem dX10_closes_43 : decode cX10_closes 43 = .ok (.putfield 152, 3) := by decide +kernel
theorem dX10_closes_46 : decode cX10_closes 46 = .ok (.aload_n 0, 1) := by decide +kernel
theorem dX10_closes_47 : decode cX10_closes 47 = .ok (.dup, 1) := by decide +kernel
theorem dX10_closes_48 : decode cX10_closes 48 = .ok (.getfield 90, 3) := by decide +kernel
theorem dX10_closes_51 : decode cX10_closes 51 = .ok (.iconst 1, 1) := by decide +kernel
theorem dX10_closes_52 : decode cX10_closes 52 = .ok (.iadd, 1) := by decide +kernel
theorem dX10_closes_53 : decode cX10_closes 53 = .ok (.putfield 90, 3) := by decide +kernel
theorem dX10_closes_56 : decode cX10_closes 56 = .ok (.aload_n 0, 1) := by decide +kernel
theorem dX10_closes_57 : decode cX10_closes 57 = .ok (.iconst 3, 1) := by decide +kernel
theorem dX10_closes_58 : decode cX10_closes 58 = .ok (.invokevirtual 194, 3) := by decide +kernel
theorem dX10_closes_61 : decode cX10_closes 61 = .ok (.goto (-56), 3) := by decide +kernel
theorem dX10_closes_64 : decode cX10_closes 64 = .ok (.return_, 1) := by decide +kernel
theorem dX10_tested_0 : decode cX10_tested 0 = .ok (.aload_n 0, 1) := by decide +kernel
theorem dX10_tested_1 : decode cX10_tested 1 = .ok (.iconst 0, 1) := by decide +kernel
theorem dX10_tested_2 : decode cX10_tested 2 = .ok (.putfield 155, 3) := by decide +kernel
theorem dX10_tested_5 : decode cX10_tested 5 = .ok (.aload_n 0, 1) := by decide +kernel
theorem dX10_tested_6 : decode cX10_tested 6 = .ok (.iconst 0, 1) := by decide +kernel
theorem dX10_tested_7 : decode cX10_tested 7 = .ok (.putfield 152, 3) := by decide +kernel
theorem dX10_tested_10 : decode cX10_tested 10 = .ok (.iconst 1, 1) := by decide +kernel
theorem dX10_tested_11 : decode cX10_tested 11 = .ok (.istore_n 1, 1) := by decide +kernel
theorem dX10_tested_12 : decode cX10_tested 12 = .ok (.iload_n 1, 1) := by decide +kernel
theorem dX10_tested_13 : decode cX10_tested 13 = .ok (.ifCond .eq 99, 3) := by decide +kernel
theorem dX10_tested_16 : decode cX10_tested 16 = .ok (.aload_n 0, 1) := by decide +kernel
theorem dX10_tested_17 : decode cX10_tested 17 = .ok (.invokevirtual 200, 3) := by decide +kernel
theorem dX10_tested_20 : decode cX10_tested 20 = .ok (.ifCond .ne 5, 3) := by decide +kernel
theorem dX10_tested_23 : decode cX10_tested 23 = .ok (.iconst 0, 1) := by decide +kernel
theorem dX10_tested_24 : decode cX10_tested 24 = .ok (.ireturn, 1) := by decide +kernel
theorem dX10_tested_25 : decode cX10_tested 25 = .ok (.aload_n 0, 1) := by decide +kernel
theorem dX10_tested_26 : decode cX10_tested 26 = .ok (.invokevirtual 203, 3) := by decide +kernel
theorem dX10_tested_29 : decode cX10_tested 29 = .ok (.aload_n 0, 1) := by decide +kernel
theorem dX10_tested_30 : decode cX10_tested 30 = .ok (.ldc2_w 206, 3) := by decide +kernel
theorem dX10_tested_33 : decode cX10_tested 33 = .ok (.invokevirtual 101, 3) := by decide +kernel
theorem dX10_tested_36 : decode cX10_tested 36 = .ok (.ifCond .ne 13, 3) := by decide +kernel
theorem dX10_tested_39 : decode cX10_tested 39 = .ok (.aload_n 0, 1) := by decide +kernel
theorem dX10_tested_40 : decode cX10_tested 40 = .ok (.ldc2_w 208, 3) := by decide +kernel
theorem dX10_tested_43 : decode cX10_tested 43 = .ok (.invokevirtual 101, 3) := by decide +kernel
theorem dX10_tested_46 : decode cX10_tested 46 = .ok (.ifCond .eq 7, 3) := by decide +kernel
theorem dX10_tested_49 : decode cX10_tested 49 = .ok (.iconst 1, 1) := by decide +kernel
theorem dX10_tested_50 : decode cX10_tested 50 = .ok (.goto 4, 3) := by decide +kernel
theorem dX10_tested_53 : decode cX10_tested 53 = .ok (.iconst 0, 1) := by decide +kernel
theorem dX10_tested_54 : decode cX10_tested 54 = .ok (.istore_n 1, 1) := by decide +kernel
theorem dX10_tested_55 : decode cX10_tested 55 = .ok (.iload_n 1, 1) := by decide +kernel
theorem dX10_tested_56 : decode cX10_tested 56 = .ok (.ifCond .eq (-44), 3) := by decide +kernel
theorem dX10_tested_59 : decode cX10_tested 59 = .ok (.aload_n 0, 1) := by decide +kernel
theorem dX10_tested_60 : decode cX10_tested 60 = .ok (.ldc2_w 206, 3) := by decide +kernel
theorem dX10_tested_63 : decode cX10_tested 63 = .ok (.invokevirtual 101, 3) := by decide +kernel
theorem dX10_tested_66 : decode cX10_tested 66 = .ok (.ifCond .eq 8, 3) := by decide +kernel
theorem dX10_tested_69 : decode cX10_tested 69 = .ok (.bipush 12, 2) := by decide +kernel
theorem dX10_tested_71 : decode cX10_tested 71 = .ok (.goto 5, 3) := by decide +kernel
theorem dX10_tested_74 : decode cX10_tested 74 = .ok (.bipush 13, 2) := by decide +kernel
theorem dX10_tested_76 : decode cX10_tested 76 = .ok (.istore_n 2, 1) := by decide +kernel
theorem dX10_tested_77 : decode cX10_tested 77 = .ok (.aload_n 0, 1) := by decide +kernel
theorem dX10_tested_78 : decode cX10_tested 78 = .ok (.invokevirtual 105, 3) := by decide +kernel
theorem dX10_tested_81 : decode cX10_tested 81 = .ok (.aload_n 0, 1) := by decide +kernel
theorem dX10_tested_82 : decode cX10_tested 82 = .ok (.iload_n 2, 1) := by decide +kernel
theorem dX10_tested_83 : decode cX10_tested 83 = .ok (.invokestatic 158, 3) := by decide +kernel
theorem dX10_tested_86 : decode cX10_tested 86 = .ok (.invokevirtual 194, 3) := by decide +kernel
theorem dX10_tested_89 : decode cX10_tested 89 = .ok (.aload_n 0, 1) := by decide +kernel
theorem dX10_tested_90 : decode cX10_tested 90 = .ok (.getfield 29, 3) := by decide +kernel
theorem dX10_tested_93 : decode cX10_tested 93 = .ok (.aload_n 0, 1) := by decide +kernel
theorem dX10_tested_94 : decode cX10_tested 94 = .ok (.getfield 155, 3) := by decide +kernel
theorem dX10_tested_97 : decode cX10_tested 97 = .ok (.iload_n 2, 1) := by decide +kernel
theorem dX10_tested_98 : decode cX10_tested 98 = .ok (.iastore, 1) := by decide +kernel
theorem dX10_tested_99 : decode cX10_tested 99 = .ok (.aload_n 0, 1) := by decide +kernel
theorem dX10_tested_100 : decode cX10_tested 100 = .ok (.dup, 1) := by decide +kernel
theorem dX10_tested_101 : decode cX10_tested 101 = .ok (.getfield 155, 3) := by decide +kernel
theorem dX10_tested_104 : decode cX10_tested 104 = .ok (.iconst 1, 1) := by decide +kernel
theorem dX10_tested_105 : decode cX10_tested 105 = .ok (.iadd, 1) := by decide +kernel
theorem dX10_tested_106 : decode cX10_tested 106 = .ok (.putfield 155, 3) := by decide +kernel
theorem dX10_tested_109 : decode cX10_tested 109 = .ok (.goto (-97), 3) := by decide +kernel
theorem dX10_tested_112 : decode cX10_tested 112 = .ok (.aload_n 0, 1) := by decide +kernel
theorem dX10_tested_113 : decode cX10_tested 113 = .ok (.invokevirtual 197, 3) := by decide +kernel
theorem dX10_tested_116 : decode cX10_tested 116 = .ok (.ifCond .eq 18, 3) := by decide +kernel
theorem dX10_tested_119 : decode cX10_tested 119 = .ok (.aload_n 0, 1) := by decide +kernel
theorem dX10_tested_120 : decode cX10_tested 120 = .ok (.invokevirtual 93, 3) := by decide +kernel
theorem dX10_tested_123 : decode cX10_tested 123 = .ok (.pop, 1) := by decide +kernel
theorem dX10_tested_124 : decode cX10_tested 124 = .ok (.aload_n 0, 1) := by decide +kernel
theorem dX10_tested_125 : decode cX10_tested 125 = .ok (.iconst 0, 1) := by decide +kernel
theorem dX10_tested_126 : decode cX10_tested 126 = .ok (.aload_n 0, 1) := by decide +kernel
theorem dX10_tested_127 : decode cX10_tested 127 = .ok (.getfield 90, 3) := by decide +kernel
theorem dX10_tested_130 : decode cX10_tested 130 = .ok (.invokevirtual 111, 3) := by decide +kernel
theorem dX10_tested_133 : decode cX10_tested 133 = .ok (.ireturn, 1) := by decide +kernel
theorem dX10_tested_134 : decode cX10_tested 134 = .ok (.aload_n 0, 1) := by decide +kernel
theorem dX10_tested_135 : decode cX10_tested 135 = .ok (.iconst 1, 1) := by decide +kernel
theorem dX10_tested_136 : decode cX10_tested 136 = .ok (.invokevirtual 194, 3) := by decide +kernel
theorem dX10_tested_139 : decode cX10_tested 139 = .ok (.iconst 1, 1) := by decide +kernel
theorem dX10_tested_140 : decode cX10_tested 140 = .ok (.ireturn, 1) := by decide +kernel
theorem dX10_isCrossHere_0 : decode cX10_isCrossHere 0 = .ok (.aload_n 0, 1) := by decide +kernel
theorem dX10_isCrossHere_1 : decode cX10_isCrossHere 1 = .ok (.invokevirtual 105, 3) := by decide +kernel
theorem dX10_isCrossHere_4 : decode cX10_isCrossHere 4 = .ok (.bipush 48, 2) := by decide +kernel
theorem dX10_isCrossHere_6 : decode cX10_isCrossHere 6 = .ok (.aload_n 0, 1) := by decide +kernel
theorem dX10_isCrossHere_7 : decode cX10_isCrossHere 7 = .ok (.getfield 146, 3) := by decide +kernel
theorem dX10_isCrossHere_10 : decode cX10_isCrossHere 10 = .ok (.imul, 1) := by decide +kernel
theorem dX10_isCrossHere_11 : decode cX10_isCrossHere 11 = .ok (.iconst 4, 1) := by decide +kernel
theorem dX10_isCrossHere_12 : decode cX10_isCrossHere 12 = .ok (.aload_n 0, 1) := by decide +kernel
theorem dX10_isCrossHere_13 : decode cX10_isCrossHere 13 = .ok (.getfield 23, 3) := by decide +kernel
theorem dX10_isCrossHere_16 : decode cX10_isCrossHere 16 = .ok (.aload_n 0, 1) := by decide +kernel
theorem dX10_isCrossHere_17 : decode cX10_isCrossHere 17 = .ok (.getfield 146, 3) := by decide +kernel
theorem dX10_isCrossHere_20 : decode cX10_isCrossHere 20 = .ok (.iaload, 1) := by decide +kernel
theorem dX10_isCrossHere_21 : decode cX10_isCrossHere 21 = .ok (.imul, 1) := by decide +kernel
theorem dX10_isCrossHere_22 : decode cX10_isCrossHere 22 = .ok (.iadd, 1) := by decide +kernel
theorem dX10_isCrossHere_23 : decode cX10_isCrossHere 23 = .ok (.istore_n 1, 1) := by decide +kernel
theorem dX10_isCrossHere_24 : decode cX10_isCrossHere 24 = .ok (.aload_n 0, 1) := by decide +kernel
theorem dX10_isCrossHere_25 : decode cX10_isCrossHere 25 = .ok (.getfield 20, 3) := by decide +kernel
theorem dX10_isCrossHere_28 : decode cX10_isCrossHere 28 = .ok (.iload_n 1, 1) := by decide +kernel
theorem dX10_isCrossHere_29 : decode cX10_isCrossHere 29 = .ok (.aload_n 0, 1) := by decide +kernel
theorem dX10_isCrossHere_30 : decode cX10_isCrossHere 30 = .ok (.getfield 17, 3) := by decide +kernel
theorem dX10_isCrossHere_33 : decode cX10_isCrossHere 33 = .ok (.aload_n 0, 1) := by decide +kernel
theorem dX10_isCrossHere_34 : decode cX10_isCrossHere 34 = .ok (.getfield 146, 3) := by decide +kernel
theorem dX10_isCrossHere_37 : decode cX10_isCrossHere 37 = .ok (.iaload, 1) := by decide +kernel
theorem dX10_isCrossHere_38 : decode cX10_isCrossHere 38 = .ok (.iastore, 1) := by decide +kernel
theorem dX10_isCrossHere_39 : decode cX10_isCrossHere 39 = .ok (.aload_n 0, 1) := by decide +kernel
theorem dX10_isCrossHere_40 : decode cX10_isCrossHere 40 = .ok (.invokevirtual 183, 3) := by decide +kernel
theorem dX10_isCrossHere_43 : decode cX10_isCrossHere 43 = .ok (.ifCond .ne 5, 3) := by decide +kernel
theorem dX10_isCrossHere_46 : decode cX10_isCrossHere 46 = .ok (.iconst 0, 1) := by decide +kernel
theorem dX10_isCrossHere_47 : decode cX10_isCrossHere 47 = .ok (.ireturn, 1) := by decide +kernel
theorem dX10_isCrossHere_48 : decode cX10_isCrossHere 48 = .ok (.aload_n 0, 1) := by decide +kernel
theorem dX10_isCrossHere_49 : decode cX10_isCrossHere 49 = .ok (.getfield 20, 3) := by decide +kernel
theorem dX10_isCrossHere_52 : decode cX10_isCrossHere 52 = .ok (.iload_n 1, 1) := by decide +kernel
theorem dX10_isCrossHere_53 : decode cX10_isCrossHere 53 = .ok (.iconst 1, 1) := by decide +kernel
theorem dX10_isCrossHere_54 : decode cX10_isCrossHere 54 = .ok (.iadd, 1) := by decide +kernel
theorem dX10_isCrossHere_55 : decode cX10_isCrossHere 55 = .ok (.aload_n 0, 1) := by decide +kernel
theorem dX10_isCrossHere_56 : decode cX10_isCrossHere 56 = .ok (.getfield 17, 3) := by decide +kernel
theorem dX10_isCrossHere_59 : decode cX10_isCrossHere 59 = .ok (.aload_n 0, 1) := by decide +kernel
theorem dX10_isCrossHere_60 : decode cX10_isCrossHere 60 = .ok (.getfield 146, 3) := by decide +kernel
theorem dX10_isCrossHere_63 : decode cX10_isCrossHere 63 = .ok (.iaload, 1) := by decide +kernel
theorem dX10_isCrossHere_64 : decode cX10_isCrossHere 64 = .ok (.iastore, 1) := by decide +kernel
theorem dX10_isCrossHere_65 : decode cX10_isCrossHere 65 = .ok (.aload_n 0, 1) := by decide +kernel
theorem dX10_isCrossHere_66 : decode cX10_isCrossHere 66 = .ok (.getfield 20, 3) := by decide +kernel
theorem dX10_isCrossHere_69 : decode cX10_isCrossHere 69 = .ok (.iload_n 1, 1) := by decide +kernel
theorem dX10_isCrossHere_70 : decode cX10_isCrossHere 70 = .ok (.iconst 2, 1) := by decide +kernel
theorem dX10_isCrossHere_71 : decode cX10_isCrossHere 71 = .ok (.iadd, 1) := by decide +kernel
theorem dX10_isCrossHere_72 : decode cX10_isCrossHere 72 = .ok (.iconst (-1), 1) := by decide +kernel
theorem dX10_isCrossHere_73 : decode cX10_isCrossHere 73 = .ok (.iastore, 1) := by decide +kernel
theorem dX10_isCrossHere_74 : decode cX10_isCrossHere 74 = .ok (.aload_n 0, 1) := by decide +kernel
theorem dX10_isCrossHere_75 : decode cX10_isCrossHere 75 = .ok (.ldc2_w 210, 3) := by decide +kernel
theorem dX10_isCrossHere_78 : decode cX10_isCrossHere 78 = .ok (.invokevirtual 212, 3) := by decide +kernel
theorem dX10_isCrossHere_81 : decode cX10_isCrossHere 81 = .ok (.ifCond .eq 29, 3) := by decide +kernel
theorem dX10_isCrossHere_84 : decode cX10_isCrossHere 84 = .ok (.aload_n 0, 1) := by decide +kernel
theorem dX10_isCrossHere_85 : decode cX10_isCrossHere 85 = .ok (.getfield 20, 3) := by decide +kernel
theorem dX10_isCrossHere_88 : decode cX10_isCrossHere 88 = .ok (.iload_n 1, 1) := by decide +kernel
theorem dX10_isCrossHere_89 : decode cX10_isCrossHere 89 = .ok (.iconst 2, 1) := by decide +kernel
theorem dX10_isCrossHere_90 : decode cX10_isCrossHere 90 = .ok (.iadd, 1) := by decide +kernel
theorem dX10_isCrossHere_91 : decode cX10_isCrossHere 91 = .ok (.aload_n 0, 1) := by decide +kernel
theorem dX10_isCrossHere_92 : decode cX10_isCrossHere 92 = .ok (.getfield 17, 3) := by decide +kernel
theorem dX10_isCrossHere_95 : decode cX10_isCrossHere 95 = .ok (.aload_n 0, 1) := by decide +kernel
theorem dX10_isCrossHere_96 : decode cX10_isCrossHere 96 = .ok (.getfield 146, 3) := by decide +kernel
theorem dX10_isCrossHere_99 : decode cX10_isCrossHere 99 = .ok (.iaload, 1) := by decide +kernel
theorem dX10_isCrossHere_100 : decode cX10_isCrossHere 100 = .ok (.iastore, 1) := by decide +kernel
theorem dX10_isCrossHere_101 : decode cX10_isCrossHere 101 = .ok (.aload_n 0, 1) := by decide +kernel
theorem dX10_isCrossHere_102 : decode cX10_isCrossHere 102 = .ok (.invokevirtual 215, 3) := by decide +kernel
theorem dX10_isCrossHere_105 : decode cX10_isCrossHere 105 = .ok (.ifCond .ne 5, 3) := by decide +kernel
theorem dX10_isCrossHere_108 : decode cX10_isCrossHere 108 = .ok (.iconst 0, 1) := by decide +kernel
theorem dX10_isCrossHere_109 : decode cX10_isCrossHere 109 = .ok (.ireturn, 1) := by decide +kernel
theorem dX10_isCrossHere_110 : decode cX10_isCrossHere 110 = .ok (.aload_n 0, 1) := by decide +kernel
theorem dX10_isCrossHere_111 : decode cX10_isCrossHere 111 = .ok (.getfield 20, 3) := by decide +kernel
theorem dX10_isCrossHere_114 : decode cX10_isCrossHere 114 = .ok (.iload_n 1, 1) := by decide +kernel
theorem dX10_isCrossHere_115 : decode cX10_isCrossHere 115 = .ok (.iconst 3, 1) := by decide +kernel
theorem dX10_isCrossHere_116 : decode cX10_isCrossHere 116 = .ok (.iadd, 1) := by decide +kernel
theorem dX10_isCrossHere_117 : decode cX10_isCrossHere 117 = .ok (.aload_n 0, 1) := by decide +kernel
theorem dX10_isCrossHere_118 : decode cX10_isCrossHere 118 = .ok (.getfield 17, 3) := by decide +kernel
theorem dX10_isCrossHere_121 : decode cX10_isCrossHere 121 = .ok (.aload_n 0, 1) := by decide +kernel
theorem dX10_isCrossHere_122 : decode cX10_isCrossHere 122 = .ok (.getfield 146, 3) := by decide +kernel
theorem dX10_isCrossHere_125 : decode cX10_isCrossHere 125 = .ok (.iaload, 1) := by decide +kernel
theorem dX10_isCrossHere_126 : decode cX10_isCrossHere 126 = .ok (.iastore, 1) := by decide +kernel
theorem dX10_isCrossHere_127 : decode cX10_isCrossHere 127 = .ok (.aload_n 0, 1) := by decide +kernel
theorem dX10_isCrossHere_128 : decode cX10_isCrossHere 128 = .ok (.getfield 23, 3) := by decide +kernel
theorem dX10_isCrossHere_131 : decode cX10_isCrossHere 131 = .ok (.aload_n 0, 1) := by decide +kernel
theorem dX10_isCrossHere_132 : decode cX10_isCrossHere 132 = .ok (.getfield 146, 3) := by decide +kernel
theorem dX10_isCrossHere_135 : decode cX10_isCrossHere 135 = .ok (.dup2, 1) := by decide +kernel
theorem dX10_isCrossHere_136 : decode cX10_isCrossHere 136 = .ok (.iaload, 1) := by decide +kernel
theorem dX10_isCrossHere_137 : decode cX10_isCrossHere 137 = .ok (.iconst 1, 1) := by decide +kernel
theorem dX10_isCrossHere_138 : decode cX10_isCrossHere 138 = .ok (.iadd, 1) := by decide +kernel
theorem dX10_isCrossHere_139 : decode cX10_isCrossHere 139 = .ok (.iastore, 1) := by decide +kernel
theorem dX10_isCrossHere_140 : decode cX10_isCrossHere 140 = .ok (.iconst 1, 1) := by decide +kernel
theorem dX10_isCrossHere_141 : decode cX10_isCrossHere 141 = .ok (.ireturn, 1) := by decide +kernel
theorem dX10_cellHere_0 : decode cX10_cellHere 0 = .ok (.aload_n 0, 1) := by decide +kernel
theorem dX10_cellHere_1 : decode cX10_cellHere 1 = .ok (.iload_n 2, 1) := by decide +kernel
theorem dX10_cellHere_2 : decode cX10_cellHere 2 = .ok (.iload_n 3, 1) := by decide +kernel
theorem dX10_cellHere_3 : decode cX10_cellHere 3 = .ok (.invokevirtual 167, 3) := by decide +kernel
theorem dX10_cellHere_6 : decode cX10_cellHere 6 = .ok (.ifCond .ne 5, 3) := by decide +kernel
theorem dX10_cellHere_9 : decode cX10_cellHere 9 = .ok (.iconst 0, 1) := by decide +kernel
theorem dX10_cellHere_10 : decode cX10_cellHere 10 = .ok (.ireturn, 1) := by decide +kernel
theorem dX10_cellHere_11 : decode cX10_cellHere 11 = .ok (.aload_n 0, 1) := by decide +kernel
theorem dX10_cellHere_12 : decode cX10_cellHere 12 = .ok (.getfield 26, 3) := by decide +kernel
theorem dX10_cellHere_15 : decode cX10_cellHere 15 = .ok (.iload_n 1, 1) := by decide +kernel
theorem dX10_cellHere_16 : decode cX10_cellHere 16 = .ok (.aload_n 0, 1) := by decide +kernel
theorem dX10_cellHere_17 : decode cX10_cellHere 17 = .ok (.getfield 115, 3) := by decide +kernel
theorem dX10_cellHere_20 : decode cX10_cellHere 20 = .ok (.iastore, 1) := by decide +kernel
theorem dX10_cellHere_21 : decode cX10_cellHere 21 = .ok (.iconst 1, 1) := by decide +kernel
theorem dX10_cellHere_22 : decode cX10_cellHere 22 = .ok (.ireturn, 1) := by decide +kernel
theorem dX10_isTownHere_0 : decode cX10_isTownHere 0 = .ok (.aload_n 0, 1) := by decide +kernel
theorem dX10_isTownHere_1 : decode cX10_isTownHere 1 = .ok (.getfield 26, 3) := by decide +kernel
theorem dX10_isTownHere_4 : decode cX10_isTownHere 4 = .ok (.iconst 0, 1) := by decide +kernel
theorem dX10_isTownHere_5 : decode cX10_isTownHere 5 = .ok (.iaload, 1) := by decide +kernel
theorem dX10_isTownHere_6 : decode cX10_isTownHere 6 = .ok (.ifCond .le 10, 3) := by decide +kernel
theorem dX10_isTownHere_9 : decode cX10_isTownHere 9 = .ok (.aload_n 0, 1) := by decide +kernel
theorem dX10_isTownHere_10 : decode cX10_isTownHere 10 = .ok (.iconst 4, 1) := by decide +kernel
theorem dX10_isTownHere_11 : decode cX10_isTownHere 11 = .ok (.iload_n 1, 1) := by decide +kernel
theorem dX10_isTownHere_12 : decode cX10_isTownHere 12 = .ok (.invokevirtual 111, 3) := by decide +kernel
theorem dX10_isTownHere_15 : decode cX10_isTownHere 15 = .ok (.ireturn, 1) := by decide +kernel
theorem dX10_isTownHere_16 : decode cX10_isTownHere 16 = .ok (.aload_n 0, 1) := by decide +kernel
theorem dX10_isTownHere_17 : decode cX10_isTownHere 17 = .ok (.invokevirtual 105, 3) := by decide +kernel
theorem dX10_isTownHere_20 : decode cX10_isTownHere 20 = .ok (.aload_n 0, 1) := by decide +kernel
theorem dX10_isTownHere_21 : decode cX10_isTownHere 21 = .ok (.iconst 2, 1) := by decide +kernel
theorem dX10_isTownHere_22 : decode cX10_isTownHere 22 = .ok (.bipush 8, 2) := by decide +kernel
theorem dX10_isTownHere_24 : decode cX10_isTownHere 24 = .ok (.invokevirtual 167, 3) := by decide +kernel
theorem dX10_isTownHere_27 : decode cX10_isTownHere 27 = .ok (.ifCond .ne 5, 3) := by decide +kernel
theorem dX10_isTownHere_30 : decode cX10_isTownHere 30 = .ok (.iconst 0, 1) := by decide +kernel
theorem dX10_isTownHere_31 : decode cX10_isTownHere 31 = .ok (.ireturn, 1) := by decide +kernel
theorem dX10_isTownHere_32 : decode cX10_isTownHere 32 = .ok (.aload_n 0, 1) := by decide +kernel
theorem dX10_isTownHere_33 : decode cX10_isTownHere 33 = .ok (.getfield 115, 3) := by decide +kernel
theorem dX10_isTownHere_36 : decode cX10_isTownHere 36 = .ok (.istore_n 2, 1) := by decide +kernel
theorem dX10_isTownHere_37 : decode cX10_isTownHere 37 = .ok (.aload_n 0, 1) := by decide +kernel
theorem dX10_isTownHere_38 : decode cX10_isTownHere 38 = .ok (.iconst 1, 1) := by decide +kernel
theorem dX10_isTownHere_39 : decode cX10_isTownHere 39 = .ok (.iconst 1, 1) := by decide +kernel
theorem dX10_isTownHere_40 : decode cX10_isTownHere 40 = .ok (.iconst 5, 1) := by decide +kernel
theorem dX10_isTownHere_41 : decode cX10_isTownHere 41 = .ok (.invokevirtual 218, 3) := by decide +kernel
theorem dX10_isTownHere_44 : decode cX10_isTownHere 44 = .ok (.ifCond .ne 5, 3) := by decide +kernel
theorem dX10_isTownHere_47 : decode cX10_isTownHere 47 = .ok (.iconst 0, 1) := by decide +kernel
theorem dX10_isTownHere_48 : decode cX10_isTownHere 48 = .ok (.ireturn, 1) := by decide +kernel
theorem dX10_isTownHere_49 : decode cX10_isTownHere 49 = .ok (.aload_n 0, 1) := by decide +kernel
theorem dX10_isTownHere_50 : decode cX10_isTownHere 50 = .ok (.getfield 26, 3) := by decide +kernel
theorem dX10_isTownHere_53 : decode cX10_isTownHere 53 = .ok (.iconst 0, 1) := by decide +kernel
theorem dX10_isTownHere_54 : decode cX10_isTownHere 54 = .ok (.iload_n 2, 1) := by decide +kernel
theorem dX10_isTownHere_55 : decode cX10_isTownHere 55 = .ok (.iastore, 1) := by decide +kernel
theorem dX10_isTownHere_56 : decode cX10_isTownHere 56 = .ok (.iconst 1, 1) := by decide +kernel
theorem dX10_isTownHere_57 : decode cX10_isTownHere 57 = .ok (.ireturn, 1) := by decide +kernel
theorem dX10_areTwoHere_0 : decode cX10_areTwoHere 0 = .ok (.aload_n 0, 1) := by decide +kernel
theorem dX10_areTwoHere_1 : decode cX10_areTwoHere 1 = .ok (.invokevirtual 105, 3) := by decide +kernel
theorem dX10_areTwoHere_4 : decode cX10_areTwoHere 4 = .ok (.aload_n 0, 1) := by decide +kernel
theorem dX10_areTwoHere_5 : decode cX10_areTwoHere 5 = .ok (.iload_n 1, 1) := by decide +kernel
theorem dX10_areTwoHere_6 : decode cX10_areTwoHere 6 = .ok (.iconst 0, 1) := by decide +kernel
theorem dX10_areTwoHere_7 : decode cX10_areTwoHere 7 = .ok (.aload_n 0, 1) := by decide +kernel
theorem dX10_areTwoHere_8 : decode cX10_areTwoHere 8 = .ok (.getfield 26, 3) := by decide +kernel
theorem dX10_areTwoHere_11 : decode cX10_areTwoHere 11 = .ok (.iconst 0, 1) := by decide +kernel
theorem dX10_areTwoHere_12 : decode cX10_areTwoHere 12 = .ok (.iaload, 1) := by decide +kernel
theorem dX10_areTwoHere_13 : decode cX10_areTwoHere 13 = .ok (.iconst 1, 1) := by decide +kernel
theorem dX10_areTwoHere_14 : decode cX10_areTwoHere 14 = .ok (.isub, 1) := by decide +kernel
theorem dX10_areTwoHere_15 : decode cX10_areTwoHere 15 = .ok (.invokevirtual 218, 3) := by decide +kernel
theorem dX10_areTwoHere_18 : decode cX10_areTwoHere 18 = .ok (.ifCond .ne 5, 3) := by decide +kernel
theorem dX10_areTwoHere_21 : decode cX10_areTwoHere 21 = .ok (.iconst 0, 1) := by decide +kernel
theorem dX10_areTwoHere_22 : decode cX10_areTwoHere 22 = .ok (.ireturn, 1) := by decide +kernel
theorem dX10_areTwoHere_23 : decode cX10_areTwoHere 23 = .ok (.aload_n 0, 1) := by decide +kernel
theorem dX10_areTwoHere_24 : decode cX10_areTwoHere 24 = .ok (.invokevirtual 93, 3) := by decide +kernel
theorem dX10_areTwoHere_27 : decode cX10_areTwoHere 27 = .ok (.pop, 1) := by decide +kernel
theorem dX10_areTwoHere_28 : decode cX10_areTwoHere 28 = .ok (.aload_n 0, 1) := by decide +kernel
theorem dX10_areTwoHere_29 : decode cX10_areTwoHere 29 = .ok (.getfield 90, 3) := by decide +kernel
theorem dX10_areTwoHere_32 : decode cX10_areTwoHere 32 = .ok (.istore_n 2, 1) := by decide +kernel
theorem dX10_areTwoHere_33 : decode cX10_areTwoHere 33 = .ok (.aload_n 0, 1) := by decide +kernel
theorem dX10_areTwoHere_34 : decode cX10_areTwoHere 34 = .ok (.iload_n 1, 1) := by decide +kernel
theorem dX10_areTwoHere_35 : decode cX10_areTwoHere 35 = .ok (.iconst 1, 1) := by decide +kernel
theorem dX10_areTwoHere_36 : decode cX10_areTwoHere 36 = .ok (.iadd, 1) := by decide +kernel
theorem dX10_areTwoHere_37 : decode cX10_areTwoHere 37 = .ok (.iconst 0, 1) := by decide +kernel
theorem dX10_areTwoHere_38 : decode cX10_areTwoHere 38 = .ok (.aload_n 0, 1) := by decide +kernel
theorem dX10_areTwoHere_39 : decode cX10_areTwoHere 39 = .ok (.getfield 26, 3) := by decide +kernel
theorem dX10_areTwoHere_42 : decode cX10_areTwoHere 42 = .ok (.iconst 0, 1) := by decide +kernel
theorem dX10_areTwoHere_43 : decode cX10_areTwoHere 43 = .ok (.iaload, 1) := by decide +kernel
theorem dX10_areTwoHere_44 : decode cX10_areTwoHere 44 = .ok (.iconst 1, 1) := by decide +kernel
theorem dX10_areTwoHere_45 : decode cX10_areTwoHere 45 = .ok (.isub, 1) := by decide +kernel
theorem dX10_areTwoHere_46 : decode cX10_areTwoHere 46 = .ok (.invokevirtual 218, 3) := by decide +kernel
theorem dX10_areTwoHere_49 : decode cX10_areTwoHere 49 = .ok (.ifCond .eq 33, 3) := by decide +kernel
theorem dX10_areTwoHere_52 : decode cX10_areTwoHere 52 = .ok (.aload_n 0, 1) := by decide +kernel
theorem dX10_areTwoHere_53 : decode cX10_areTwoHere 53 = .ok (.getfield 26, 3) := by decide +kernel
theorem dX10_areTwoHere_56 : decode cX10_areTwoHere 56 = .ok (.iload_n 1, 1) := by decide +kernel
theorem dX10_areTwoHere_57 : decode cX10_areTwoHere 57 = .ok (.iaload, 1) := by decide +kernel
theorem dX10_areTwoHere_58 : decode cX10_areTwoHere 58 = .ok (.aload_n 0, 1) := by decide +kernel
theorem dX10_areTwoHere_59 : decode cX10_areTwoHere 59 = .ok (.getfield 26, 3) := by decide +kernel
theorem dX10_areTwoHere_62 : decode cX10_areTwoHere 62 = .ok (.iload_n 1, 1) := by decide +kernel
theorem dX10_areTwoHere_63 : decode cX10_areTwoHere 63 = .ok (.iconst 1, 1) := by decide +kernel
theorem dX10_areTwoHere_64 : decode cX10_areTwoHere 64 = .ok (.iadd, 1) := by decide +kernel
theorem dX10_areTwoHere_65 : decode cX10_areTwoHere 65 = .ok (.iaload, 1) := by decide +kernel
theorem dX10_areTwoHere_66 : decode cX10_areTwoHere 66 = .ok (.if_icmp .ne 12, 3) := by decide +kernel
theorem dX10_areTwoHere_69 : decode cX10_areTwoHere 69 = .ok (.aload_n 0, 1) := by decide +kernel
theorem dX10_areTwoHere_70 : decode cX10_areTwoHere 70 = .ok (.iconst 1, 1) := by decide +kernel
theorem dX10_areTwoHere_71 : decode cX10_areTwoHere 71 = .ok (.iload_n 2, 1) := by decide +kernel
theorem dX10_areTwoHere_72 : decode cX10_areTwoHere 72 = .ok (.invokevirtual 111, 3) := by decide +kernel
theorem dX10_areTwoHere_75 : decode cX10_areTwoHere 75 = .ok (.ifCond .eq 7, 3) := by decide +kernel
theorem dX10_areTwoHere_78 : decode cX10_areTwoHere 78 = .ok (.iconst 1, 1) := by decide +kernel
theorem dX10_areTwoHere_79 : decode cX10_areTwoHere 79 = .ok (.goto 4, 3) := by decide +kernel
theorem dX10_areTwoHere_82 : decode cX10_areTwoHere 82 = .ok (.iconst 0, 1) := by decide +kernel
theorem dX10_areTwoHere_83 : decode cX10_areTwoHere 83 = .ok (.ireturn, 1) := by decide +kernel
theorem dX10_isBridgeHere_0 : decode cX10_isBridgeHere 0 = .ok (.aload_n 0, 1) := by decide +kernel
theorem dX10_isBridgeHere_1 : decode cX10_isBridgeHere 1 = .ok (.getfield 26, 3) := by decide +kernel
theorem dX10_isBridgeHere_4 : decode cX10_isBridgeHere 4 = .ok (.iconst 2, 1) := by decide +kernel
theorem dX10_isBridgeHere_5 : decode cX10_isBridgeHere 5 = .ok (.iaload, 1) := by decide +kernel
theorem dX10_isBridgeHere_6 : decode cX10_isBridgeHere 6 = .ok (.bipush 9, 2) := by decide +kernel
theorem dX10_isBridgeHere_8 : decode cX10_isBridgeHere 8 = .ok (.if_icmp .ne 10, 3) := by decide +kernel
theorem dX10_isBridgeHere_11 : decode cX10_isBridgeHere 11 = .ok (.aload_n 0, 1) := by decide +kernel
theorem dX10_isBridgeHere_12 : decode cX10_isBridgeHere 12 = .ok (.iconst 4, 1) := by decide +kernel
theorem dX10_isBridgeHere_13 : decode cX10_isBridgeHere 13 = .ok (.iload_n 1, 1) := by decide +kernel
theorem dX10_isBridgeHere_14 : decode cX10_isBridgeHere 14 = .ok (.invokevirtual 111, 3) := by decide +kernel
theorem dX10_isBridgeHere_17 : decode cX10_isBridgeHere 17 = .ok (.ireturn, 1) := by decide +kernel
theorem dX10_isBridgeHere_18 : decode cX10_isBridgeHere 18 = .ok (.aload_n 0, 1) := by decide +kernel
theorem dX10_isBridgeHere_19 : decode cX10_isBridgeHere 19 = .ok (.bipush 94, 2) := by decide +kernel
theorem dX10_isBridgeHere_21 : decode cX10_isBridgeHere 21 = .ok (.iconst 2, 1) := by decide +kernel
theorem dX10_isBridgeHere_22 : decode cX10_isBridgeHere 22 = .ok (.aload_n 0, 1) := by decide +kernel
theorem dX10_isBridgeHere_23 : decode cX10_isBridgeHere 23 = .ok (.getfield 26, 3) := by decide +kernel
theorem dX10_isBridgeHere_26 : decode cX10_isBridgeHere 26 = .ok (.iconst 2, 1) := by decide +kernel
theorem dX10_isBridgeHere_27 : decode cX10_isBridgeHere 27 = .ok (.iaload, 1) := by decide +kernel
theorem dX10_isBridgeHere_28 : decode cX10_isBridgeHere 28 = .ok (.imul, 1) := by decide +kernel
theorem dX10_isBridgeHere_29 : decode cX10_isBridgeHere 29 = .ok (.iadd, 1) := by decide +kernel
theorem dX10_isBridgeHere_30 : decode cX10_isBridgeHere 30 = .ok (.invokevirtual 222, 3) := by decide +kernel
theorem dX10_isBridgeHere_33 : decode cX10_isBridgeHere 33 = .ok (.ifCond .ne 5, 3) := by decide +kernel
theorem dX10_isBridgeHere_36 : decode cX10_isBridgeHere 36 = .ok (.iconst 0, 1) := by decide +kernel
theorem dX10_isBridgeHere_37 : decode cX10_isBridgeHere 37 = .ok (.ireturn, 1) := by decide +kernel
theorem dX10_isBridgeHere_38 : decode cX10_isBridgeHere 38 = .ok (.aload_n 0, 1) := by decide +kernel
theorem dX10_isBridgeHere_39 : decode cX10_isBridgeHere 39 = .ok (.getfield 26, 3) := by decide +kernel
theorem dX10_isBridgeHere_42 : decode cX10_isBridgeHere 42 = .ok (.iconst 2, 1) := by decide +kernel
theorem dX10_isBridgeHere_43 : decode cX10_isBridgeHere 43 = .ok (.dup2, 1) := by decide +kernel
theorem dX10_isBridgeHere_44 : decode cX10_isBridgeHere 44 = .ok (.iaload, 1) := by decide +kernel
theorem dX10_isBridgeHere_45 : decode cX10_isBridgeHere 45 = .ok (.iconst 1, 1) := by decide +kernel
theorem dX10_isBridgeHere_46 : decode cX10_isBridgeHere 46 = .ok (.iadd, 1) := by decide +kernel
theorem dX10_isBridgeHere_47 : decode cX10_isBridgeHere 47 = .ok (.iastore, 1) := by decide +kernel
theorem dX10_isBridgeHere_48 : decode cX10_isBridgeHere 48 = .ok (.iconst 1, 1) := by decide +kernel
theorem dX10_isBridgeHere_49 : decode cX10_isBridgeHere 49 = .ok (.ireturn, 1) := by decide +kernel
theorem dX10_isFerryHere_0 : decode cX10_isFerryHere 0 = .ok (.aload_n 0, 1) := by decide +kernel
theorem dX10_isFerryHere_1 : decode cX10_isFerryHere 1 = .ok (.getfield 26, 3) := by decide +kernel
theorem dX10_isFerryHere_4 : decode cX10_isFerryHere 4 = .ok (.iconst 3, 1) := by decide +kernel
theorem dX10_isFerryHere_5 : decode cX10_isFerryHere 5 = .ok (.iaload, 1) := by decide +kernel
theorem dX10_isFerryHere_6 : decode cX10_isFerryHere 6 = .ok (.iconst 4, 1) := by decide +kernel
theorem dX10_isFerryHere_7 : decode cX10_isFerryHere 7 = .ok (.if_icmp .ne 10, 3) := by decide +kernel
theorem dX10_isFerryHere_10 : decode cX10_isFerryHere 10 = .ok (.aload_n 0, 1) := by decide +kernel
theorem dX10_isFerryHere_11 : decode cX10_isFerryHere 11 = .ok (.iconst 4, 1) := by decide +kernel
theorem dX10_isFerryHere_12 : decode cX10_isFerryHere 12 = .ok (.iload_n 1, 1) := by decide +kernel
theorem dX10_isFerryHere_13 : decode cX10_isFerryHere 13 = .ok (.invokevirtual 111, 3) := by decide +kernel
theorem dX10_isFerryHere_16 : decode cX10_isFerryHere 16 = .ok (.ireturn, 1) := by decide +kernel
theorem dX10_isFerryHere_17 : decode cX10_isFerryHere 17 = .ok (.aload_n 0, 1) := by decide +kernel
theorem dX10_isFerryHere_18 : decode cX10_isFerryHere 18 = .ok (.bipush 112, 2) := by decide +kernel
theorem dX10_isFerryHere_20 : decode cX10_isFerryHere 20 = .ok (.iconst 2, 1) := by decide +kernel
theorem dX10_isFerryHere_21 : decode cX10_isFerryHere 21 = .ok (.aload_n 0, 1) := by decide +kernel
theorem dX10_isFerryHere_22 : decode cX10_isFerryHere 22 = .ok (.getfield 26, 3) := by decide +kernel
theorem dX10_isFerryHere_25 : decode cX10_isFerryHere 25 = .ok (.iconst 3, 1) := by decide +kernel
theorem dX10_isFerryHere_26 : decode cX10_isFerryHere 26 = .ok (.iaload, 1) := by decide +kernel
theorem dX10_isFerryHere_27 : decode cX10_isFerryHere 27 = .ok (.imul, 1) := by decide +kernel
theorem dX10_isFerryHere_28 : decode cX10_isFerryHere 28 = .ok (.iadd, 1) := by decide +kernel
theorem dX10_isFerryHere_29 : decode cX10_isFerryHere 29 = .ok (.invokevirtual 222, 3) := by decide +kernel
theorem dX10_isFerryHere_32 : decode cX10_isFerryHere 32 = .ok (.ifCond .ne 5, 3) := by decide +kernel
theorem dX10_isFerryHere_35 : decode cX10_isFerryHere 35 = .ok (.iconst 0, 1) := by decide +kernel
theorem dX10_isFerryHere_36 : decode cX10_isFerryHere 36 = .ok (.ireturn, 1) := by decide +kernel
theorem dX10_isFerryHere_37 : decode cX10_isFerryHere 37 = .ok (.aload_n 0, 1) := by decide +kernel
theorem dX10_isFerryHere_38 : decode cX10_isFerryHere 38 = .ok (.getfield 26, 3) := by decide +kernel
theorem dX10_isFerryHere_41 : decode cX10_isFerryHere 41 = .ok (.iconst 3, 1) := by decide +kernel
theorem dX10_isFerryHere_42 : decode cX10_isFerryHere 42 = .ok (.dup2, 1) := by decide +kernel
theorem dX10_isFerryHere_43 : decode cX10_isFerryHere 43 = .ok (.iaload, 1) := by decide +kernel
theorem dX10_isFerryHere_44 : decode cX10_isFerryHere 44 = .ok (.iconst 1, 1) := by decide +kernel
theorem dX10_isFerryHere_45 : decode cX10_isFerryHere 45 = .ok (.iadd, 1) := by decide +kernel
theorem dX10_isFerryHere_46 : decode cX10_isFerryHere 46 = .ok (.iastore, 1) := by decide +kernel
theorem dX10_isFerryHere_47 : decode cX10_isFerryHere 47 = .ok (.iconst 1, 1) := by decide +kernel
theorem dX10_isFerryHere_48 : decode cX10_isFerryHere 48 = .ok (.ireturn, 1) := by decide +kernel
theorem dX10_isFrostHere_0 : decode cX10_isFrostHere 0 = .ok (.aload_n 0, 1) := by decide +kernel
theorem dX10_isFrostHere_1 : decode cX10_isFrostHere 1 = .ok (.getfield 26, 3) := by decide +kernel
theorem dX10_isFrostHere_4 : decode cX10_isFrostHere 4 = .ok (.bipush 7, 2) := by decide +kernel
theorem dX10_isFrostHere_6 : decode cX10_isFrostHere 6 = .ok (.iaload, 1) := by decide +kernel
theorem dX10_isFrostHere_7 : decode cX10_isFrostHere 7 = .ok (.iconst 4, 1) := by decide +kernel
theorem dX10_isFrostHere_8 : decode cX10_isFrostHere 8 = .ok (.if_icmp .ne 10, 3) := by decide +kernel
theorem dX10_isFrostHere_11 : decode cX10_isFrostHere 11 = .ok (.aload_n 0, 1) := by decide +kernel
theorem dX10_isFrostHere_12 : decode cX10_isFrostHere 12 = .ok (.iconst 4, 1) := by decide +kernel
theorem dX10_isFrostHere_13 : decode cX10_isFrostHere 13 = .ok (.iload_n 1, 1) := by decide +kernel
theorem dX10_isFrostHere_14 : decode cX10_isFrostHere 14 = .ok (.invokevirtual 111, 3) := by decide +kernel
theorem dX10_isFrostHere_17 : decode cX10_isFrostHere 17 = .ok (.ireturn, 1) := by decide +kernel
theorem dX10_isFrostHere_18 : decode cX10_isFrostHere 18 = .ok (.aload_n 0, 1) := by decide +kernel
theorem dX10_isFrostHere_19 : decode cX10_isFrostHere 19 = .ok (.invokevirtual 105, 3) := by decide +kernel
theorem dX10_isFrostHere_22 : decode cX10_isFrostHere 22 = .ok (.bipush 120, 2) := by decide +kernel
theorem dX10_isFrostHere_24 : decode cX10_isFrostHere 24 = .ok (.iconst 2, 1) := by decide +kernel
theorem dX10_isFrostHere_25 : decode cX10_isFrostHere 25 = .ok (.aload_n 0, 1) := by decide +kernel
theorem dX10_isFrostHere_26 : decode cX10_isFrostHere 26 = .ok (.getfield 26, 3) := by decide +kernel
theorem dX10_isFrostHere_29 : decode cX10_isFrostHere 29 = .ok (.bipush 7, 2) := by decide +kernel
theorem dX10_isFrostHere_31 : decode cX10_isFrostHere 31 = .ok (.iaload, 1) := by decide +kernel
theorem dX10_isFrostHere_32 : decode cX10_isFrostHere 32 = .ok (.imul, 1) := by decide +kernel
theorem dX10_isFrostHere_33 : decode cX10_isFrostHere 33 = .ok (.iadd, 1) := by decide +kernel
theorem dX10_isFrostHere_34 : decode cX10_isFrostHere 34 = .ok (.istore_n 2, 1) := by decide +kernel
theorem dX10_isFrostHere_35 : decode cX10_isFrostHere 35 = .ok (.aload_n 0, 1) := by decide +kernel
theorem dX10_isFrostHere_36 : decode cX10_isFrostHere 36 = .ok (.iload_n 2, 1) := by decide +kernel
theorem dX10_isFrostHere_37 : decode cX10_isFrostHere 37 = .ok (.iconst 0, 1) := by decide +kernel
theorem dX10_isFrostHere_38 : decode cX10_isFrostHere 38 = .ok (.bipush 99, 2) := by decide +kernel
theorem dX10_isFrostHere_40 : decode cX10_isFrostHere 40 = .ok (.invokevirtual 218, 3) := by decide +kernel
theorem dX10_isFrostHere_43 : decode cX10_isFrostHere 43 = .ok (.ifCond .eq 21, 3) := by decide +kernel
theorem dX10_isFrostHere_46 : decode cX10_isFrostHere 46 = .ok (.aload_n 0, 1) := by decide +kernel
theorem dX10_isFrostHere_47 : decode cX10_isFrostHere 47 = .ok (.iload_n 2, 1) := by decide +kernel
theorem dX10_isFrostHere_48 : decode cX10_isFrostHere 48 = .ok (.iconst 1, 1) := by decide +kernel
theorem dX10_isFrostHere_49 : decode cX10_isFrostHere 49 = .ok (.iadd, 1) := by decide +kernel
theorem dX10_isFrostHere_50 : decode cX10_isFrostHere 50 = .ok (.aload_n 0, 1) := by decide +kernel
theorem dX10_isFrostHere_51 : decode cX10_isFrostHere 51 = .ok (.getfield 26, 3) := by decide +kernel
theorem dX10_isFrostHere_54 : decode cX10_isFrostHere 54 = .ok (.iload_n 2, 1) := by decide +kernel
theorem dX10_isFrostHere_55 : decode cX10_isFrostHere 55 = .ok (.iaload, 1) := by decide +kernel
theorem dX10_isFrostHere_56 : decode cX10_isFrostHere 56 = .ok (.bipush 99, 2) := by decide +kernel
theorem dX10_isFrostHere_58 : decode cX10_isFrostHere 58 = .ok (.invokevirtual 218, 3) := by decide +kernel
theorem dX10_isFrostHere_61 : decode cX10_isFrostHere 61 = .ok (.ifCond .ne 5, 3) := by decide +kernel
theorem dX10_isFrostHere_64 : decode cX10_isFrostHere 64 = .ok (.iconst 0, 1) := by decide +kernel
theorem dX10_isFrostHere_65 : decode cX10_isFrostHere 65 = .ok (.ireturn, 1) := by decide +kernel
theorem dX10_isFrostHere_66 : decode cX10_isFrostHere 66 = .ok (.aload_n 0, 1) := by decide +kernel
theorem dX10_isFrostHere_67 : decode cX10_isFrostHere 67 = .ok (.getfield 26, 3) := by decide +kernel
theorem dX10_isFrostHere_70 : decode cX10_isFrostHere 70 = .ok (.bipush 7, 2) := by decide +kernel
theorem dX10_isFrostHere_72 : decode cX10_isFrostHere 72 = .ok (.dup2, 1) := by decide +kernel
theorem dX10_isFrostHere_73 : decode cX10_isFrostHere 73 = .ok (.iaload, 1) := by decide +kernel
theorem dX10_isFrostHere_74 : decode cX10_isFrostHere 74 = .ok (.iconst 1, 1) := by decide +kernel
theorem dX10_isFrostHere_75 : decode cX10_isFrostHere 75 = .ok (.iadd, 1) := by decide +kernel
theorem dX10_isFrostHere_76 : decode cX10_isFrostHere 76 = .ok (.iastore, 1) := by decide +kernel
theorem dX10_isFrostHere_77 : decode cX10_isFrostHere 77 = .ok (.iconst 1, 1) := by decide +kernel
theorem dX10_isFrostHere_78 : decode cX10_isFrostHere 78 = .ok (.ireturn, 1) := by decide +kernel
theorem dX10_isPersonHere_0 : decode cX10_isPersonHere 0 = .ok (.aload_n 0, 1) := by decide +kernel
theorem dX10_isPersonHere_1 : decode cX10_isPersonHere 1 = .ok (.getfield 26, 3) := by decide +kernel
theorem dX10_isPersonHere_4 : decode cX10_isPersonHere 4 = .ok (.iconst 4, 1) := by decide +kernel
theorem dX10_isPersonHere_5 : decode cX10_isPersonHere 5 = .ok (.iaload, 1) := by decide +kernel
theorem dX10_isPersonHere_6 : decode cX10_isPersonHere 6 = .ok (.iconst 4, 1) := by decide +kernel
theorem dX10_isPersonHere_7 : decode cX10_isPersonHere 7 = .ok (.if_icmp .ne 10, 3) := by decide +kernel
theorem dX10_isPersonHere_10 : decode cX10_isPersonHere 10 = .ok (.aload_n 0, 1) := by decide +kernel
theorem dX10_isPersonHere_11 : decode cX10_isPersonHere 11 = .ok (.iconst 4, 1) := by decide +kernel
theorem dX10_isPersonHere_12 : decode cX10_isPersonHere 12 = .ok (.iload_n 1, 1) := by decide +kernel
theorem dX10_isPersonHere_13 : decode cX10_isPersonHere 13 = .ok (.invokevirtual 111, 3) := by decide +kernel
theorem dX10_isPersonHere_16 : decode cX10_isPersonHere 16 = .ok (.ireturn, 1) := by decide +kernel
theorem dX10_isPersonHere_17 : decode cX10_isPersonHere 17 = .ok (.aload_n 0, 1) := by decide +kernel
theorem dX10_isPersonHere_18 : decode cX10_isPersonHere 18 = .ok (.invokevirtual 105, 3) := by decide +kernel
theorem dX10_isPersonHere_21 : decode cX10_isPersonHere 21 = .ok (.bipush 10, 2) := by decide +kernel
theorem dX10_isPersonHere_23 : decode cX10_isPersonHere 23 = .ok (.iconst 3, 1) := by decide +kernel
theorem dX10_isPersonHere_24 : decode cX10_isPersonHere 24 = .ok (.aload_n 0, 1) := by decide +kernel
theorem dX10_isPersonHere_25 : decode cX10_isPersonHere 25 = .ok (.getfield 26, 3) := by decide +kernel
theorem dX10_isPersonHere_28 : decode cX10_isPersonHere 28 = .ok (.iconst 4, 1) := by decide +kernel
theorem dX10_isPersonHere_29 : decode cX10_isPersonHere 29 = .ok (.iaload, 1) := by decide +kernel
theorem dX10_isPersonHere_30 : decode cX10_isPersonHere 30 = .ok (.imul, 1) := by decide +kernel
theorem dX10_isPersonHere_31 : decode cX10_isPersonHere 31 = .ok (.iadd, 1) := by decide +kernel
theorem dX10_isPersonHere_32 : decode cX10_isPersonHere 32 = .ok (.istore_n 2, 1) := by decide +kernel
theorem dX10_isPersonHere_33 : decode cX10_isPersonHere 33 = .ok (.aload_n 0, 1) := by decide +kernel
theorem dX10_isPersonHere_34 : decode cX10_isPersonHere 34 = .ok (.iload_n 2, 1) := by decide +kernel
theorem dX10_isPersonHere_35 : decode cX10_isPersonHere 35 = .ok (.iconst 0, 1) := by decide +kernel
theorem dX10_isPersonHere_36 : decode cX10_isPersonHere 36 = .ok (.aload_n 0, 1) := by decide +kernel
theorem dX10_isPersonHere_37 : decode cX10_isPersonHere 37 = .ok (.getfield 26, 3) := by decide +kernel
theorem dX10_isPersonHere_40 : decode cX10_isPersonHere 40 = .ok (.iconst 0, 1) := by decide +kernel
theorem dX10_isPersonHere_41 : decode cX10_isPersonHere 41 = .ok (.iaload, 1) := by decide +kernel
theorem dX10_isPersonHere_42 : decode cX10_isPersonHere 42 = .ok (.iconst 1, 1) := by decide +kernel
theorem dX10_isPersonHere_43 : decode cX10_isPersonHere 43 = .ok (.isub, 1) := by decide +kernel
theorem dX10_isPersonHere_44 : decode cX10_isPersonHere 44 = .ok (.invokevirtual 218, 3) := by decide +kernel
theorem dX10_isPersonHere_47 : decode cX10_isPersonHere 47 = .ok (.ifCond .ne 5, 3) := by decide +kernel
theorem dX10_isPersonHere_50 : decode cX10_isPersonHere 50 = .ok (.iconst 0, 1) := by decide +kernel
theorem dX10_isPersonHere_51 : decode cX10_isPersonHere 51 = .ok (.ireturn, 1) := by decide +kernel
theorem dX10_isPersonHere_52 : decode cX10_isPersonHere 52 = .ok (.aload_n 0, 1) := by decide +kernel
theorem dX10_isPersonHere_53 : decode cX10_isPersonHere 53 = .ok (.getfield 26, 3) := by decide +kernel
theorem dX10_isPersonHere_56 : decode cX10_isPersonHere 56 = .ok (.iload_n 2, 1) := by decide +kernel
theorem dX10_isPersonHere_57 : decode cX10_isPersonHere 57 = .ok (.iconst 1, 1) := by decide +kernel
theorem dX10_isPersonHere_58 : decode cX10_isPersonHere 58 = .ok (.iadd, 1) := by decide +kernel
theorem dX10_isPersonHere_59 : decode cX10_isPersonHere 59 = .ok (.aload_n 0, 1) := by decide +kernel
theorem dX10_isPersonHere_60 : decode cX10_isPersonHere 60 = .ok (.getfield 26, 3) := by decide +kernel
theorem dX10_isPersonHere_63 : decode cX10_isPersonHere 63 = .ok (.iload_n 2, 1) := by decide +kernel
theorem dX10_isPersonHere_64 : decode cX10_isPersonHere 64 = .ok (.iaload, 1) := by decide +kernel
theorem dX10_isPersonHere_65 : decode cX10_isPersonHere 65 = .ok (.iastore, 1) := by decide +kernel
theorem dX10_isPersonHere_66 : decode cX10_isPersonHere 66 = .ok (.aload_n 0, 1) := by decide +kernel
theorem dX10_isPersonHere_67 : decode cX10_isPersonHere 67 = .ok (.getfield 26, 3) := by decide +kernel
theorem dX10_isPersonHere_70 : decode cX10_isPersonHere 70 = .ok (.iload_n 2, 1) := by decide +kernel
theorem dX10_isPersonHere_71 : decode cX10_isPersonHere 71 = .ok (.iconst 2, 1) := by decide +kernel
theorem dX10_isPersonHere_72 : decode cX10_isPersonHere 72 = .ok (.iadd, 1) := by decide +kernel
theorem dX10_isPersonHere_73 : decode cX10_isPersonHere 73 = .ok (.iconst 0, 1) := by decide +kernel
theorem dX10_isPersonHere_74 : decode cX10_isPersonHere 74 = .ok (.iastore, 1) := by decide +kernel
theorem dX10_isPersonHere_75 : decode cX10_isPersonHere 75 = .ok (.iconst 0, 1) := by decide +kernel
theorem dX10_isPersonHere_76 : decode cX10_isPersonHere 76 = .ok (.istore_n 3, 1) := by decide +kernel
theorem dX10_isPersonHere_77 : decode cX10_isPersonHere 77 = .ok (.iload_n 3, 1) := by decide +kernel
theorem dX10_isPersonHere_78 : decode cX10_isPersonHere 78 = .ok (.bipush 9, 2) := by decide +kernel
theorem dX10_isPersonHere_80 : decode cX10_isPersonHere 80 = .ok (.if_icmp .ge 49, 3) := by decide +kernel
theorem dX10_isPersonHere_83 : decode cX10_isPersonHere 83 = .ok (.aload_n 0, 1) := by decide +kernel
theorem dX10_isPersonHere_84 : decode cX10_isPersonHere 84 = .ok (.getfield 26, 3) := by decide +kernel
theorem dX10_isPersonHere_87 : decode cX10_isPersonHere 87 = .ok (.bipush 22, 2) := by decide +kernel
theorem dX10_isPersonHere_89 : decode cX10_isPersonHere 89 = .ok (.bipush 9, 2) := by decide +kernel
theorem dX10_isPersonHere_91 : decode cX10_isPersonHere 91 = .ok (.aload_n 0, 1) := by decide +kernel
theorem dX10_isPersonHere_92 : decode cX10_isPersonHere 92 = .ok (.getfield 26, 3) := by decide +kernel
theorem dX10_isPersonHere_95 : decode cX10_isPersonHere 95 = .ok (.iconst 4, 1) := by decide +kernel
theorem dX10_isPersonHere_96 : decode cX10_isPersonHere 96 = .ok (.iaload, 1) := by decide +kernel
theorem dX10_isPersonHere_97 : decode cX10_isPersonHere 97 = .ok (.imul, 1) := by decide +kernel
theorem dX10_isPersonHere_98 : decode cX10_isPersonHere 98 = .ok (.iadd, 1) := by decide +kernel
theorem dX10_isPersonHere_99 : decode cX10_isPersonHere 99 = .ok (.iload_n 3, 1) := by decide +kernel
theorem dX10_isPersonHere_100 : decode cX10_isPersonHere 100 = .ok (.iadd, 1) := by decide +kernel
theorem dX10_isPersonHere_101 : decode cX10_isPersonHere 101 = .ok (.iconst 0, 1) := by decide +kernel
theorem dX10_isPersonHere_102 : decode cX10_isPersonHere 102 = .ok (.iastore, 1) := by decide +kernel
theorem dX10_isPersonHere_103 : decode cX10_isPersonHere 103 = .ok (.aload_n 0, 1) := by decide +kernel
theorem dX10_isPersonHere_104 : decode cX10_isPersonHere 104 = .ok (.getfield 26, 3) := by decide +kernel
theorem dX10_isPersonHere_107 : decode cX10_isPersonHere 107 = .ok (.bipush 58, 2) := by decide +kernel
theorem dX10_isPersonHere_109 : decode cX10_isPersonHere 109 = .ok (.bipush 9, 2) := by decide +kernel
theorem dX10_isPersonHere_111 : decode cX10_isPersonHere 111 = .ok (.aload_n 0, 1) := by decide +kernel
theorem dX10_isPersonHere_112 : decode cX10_isPersonHere 112 = .ok (.getfield 26, 3) := by decide +kernel
theorem dX10_isPersonHere_115 : decode cX10_isPersonHere 115 = .ok (.iconst 4, 1) := by decide +kernel
theorem dX10_isPersonHere_116 : decode cX10_isPersonHere 116 = .ok (.iaload, 1) := by decide +kernel
theorem dX10_isPersonHere_117 : decode cX10_isPersonHere 117 = .ok (.imul, 1) := by decide +kernel
theorem dX10_isPersonHere_118 : decode cX10_isPersonHere 118 = .ok (.iadd, 1) := by decide +kernel
theorem dX10_isPersonHere_119 : decode cX10_isPersonHere 119 = .ok (.iload_n 3, 1) := by decide +kernel
theorem dX10_isPersonHere_120 : decode cX10_isPersonHere 120 = .ok (.iadd, 1) := by decide +kernel
theorem dX10_isPersonHere_121 : decode cX10_isPersonHere 121 = .ok (.iconst 0, 1) := by decide +kernel
theorem dX10_isPersonHere_122 : decode cX10_isPersonHere 122 = .ok (.iastore, 1) := by decide +kernel
theorem dX10_isPersonHere_123 : decode cX10_isPersonHere 123 = .ok (.iinc 3 1, 3) := by decide +kernel
theorem dX10_isPersonHere_126 : decode cX10_isPersonHere 126 = .ok (.goto (-49), 3) := by decide +kernel
theorem dX10_isPersonHere_129 : decode cX10_isPersonHere 129 = .ok (.aload_n 0, 1) := by decide +kernel
theorem dX10_isPersonHere_130 : decode cX10_isPersonHere 130 = .ok (.getfield 26, 3) := by decide +kernel
theorem dX10_isPersonHere_133 : decode cX10_isPersonHere 133 = .ok (.iconst 4, 1) := by decide +kernel
theorem dX10_isPersonHere_134 : decode cX10_isPersonHere 134 = .ok (.dup2, 1) := by decide +kernel
theorem dX10_isPersonHere_135 : decode cX10_isPersonHere 135 = .ok (.iaload, 1) := by decide +kernel
theorem dX10_isPersonHere_136 : decode cX10_isPersonHere 136 = .ok (.iconst 1, 1) := by decide +kernel
theorem dX10_isPersonHere_137 : decode cX10_isPersonHere 137 = .ok (.iadd, 1) := by decide +kernel
theorem dX10_isPersonHere_138 : decode cX10_isPersonHere 138 = .ok (.iastore, 1) := by decide +kernel
theorem dX10_isPersonHere_139 : decode cX10_isPersonHere 139 = .ok (.iconst 1, 1) := by decide +kernel
theorem dX10_isPersonHere_140 : decode cX10_isPersonHere 140 = .ok (.ireturn, 1) := by decide +kernel
theorem dX10_areCrossingsHere_0 : decode cX10_areCrossingsHere 0 = .ok (.aload_n 0, 1) := by decide +kernel
theorem dX10_areCrossingsHere_1 : decode cX10_areCrossingsHere 1 = .ok (.invokevirtual 105, 3) := by decide +kernel
theorem dX10_areCrossingsHere_4 : decode cX10_areCrossingsHere 4 = .ok (.aload_n 0, 1) := by decide +kernel
theorem dX10_areCrossingsHere_5 : decode cX10_areCrossingsHere 5 = .ok (.iconst 0, 1) := by decide +kernel
theorem dX10_areCrossingsHere_6 : decode cX10_areCrossingsHere 6 = .ok (.aload_n 0, 1) := by decide +kernel
theorem dX10_areCrossingsHere_7 : decode cX10_areCrossingsHere 7 = .ok (.getfield 26, 3) := by decide +kernel
theorem dX10_areCrossingsHere_10 : decode cX10_areCrossingsHere 10 = .ok (.iconst 4, 1) := by decide +kernel
theorem dX10_areCrossingsHere_11 : decode cX10_areCrossingsHere 11 = .ok (.iaload, 1) := by decide +kernel
theorem dX10_areCrossingsHere_12 : decode cX10_areCrossingsHere 12 = .ok (.iconst 1, 1) := by decide +kernel
theorem dX10_areCrossingsHere_13 : decode cX10_areCrossingsHere 13 = .ok (.isub, 1) := by decide +kernel
theorem dX10_areCrossingsHere_14 : decode cX10_areCrossingsHere 14 = .ok (.invokevirtual 167, 3) := by decide +kernel
theorem dX10_areCrossingsHere_17 : decode cX10_areCrossingsHere 17 = .ok (.ifCond .ne 5, 3) := by decide +kernel
theorem dX10_areCrossingsHere_20 : decode cX10_areCrossingsHere 20 = .ok (.iconst 0, 1) := by decide +kernel
theorem dX10_areCrossingsHere_21 : decode cX10_areCrossingsHere 21 = .ok (.ireturn, 1) := by decide +kernel
theorem dX10_areCrossingsHere_22 : decode cX10_areCrossingsHere 22 = .ok (.bipush 22, 2) := by decide +kernel
theorem dX10_areCrossingsHere_24 : decode cX10_areCrossingsHere 24 = .ok (.bipush 9, 2) := by decide +kernel
theorem dX10_areCrossingsHere_26 : decode cX10_areCrossingsHere 26 = .ok (.aload_n 0, 1) := by decide +kernel
theorem dX10_areCrossingsHere_27 : decode cX10_areCrossingsHere 27 = .ok (.getfield 115, 3) := by decide +kernel
theorem dX10_areCrossingsHere_30 : decode cX10_areCrossingsHere 30 = .ok (.imul, 1) := by decide +kernel
theorem dX10_areCrossingsHere_31 : decode cX10_areCrossingsHere 31 = .ok (.iadd, 1) := by decide +kernel
theorem dX10_areCrossingsHere_32 : decode cX10_areCrossingsHere 32 = .ok (.istore_n 1, 1) := by decide +kernel
theorem dX10_areCrossingsHere_33 : decode cX10_areCrossingsHere 33 = .ok (.aload_n 0, 1) := by decide +kernel
theorem dX10_areCrossingsHere_34 : decode cX10_areCrossingsHere 34 = .ok (.iconst 0, 1) := by decide +kernel
theorem dX10_areCrossingsHere_35 : decode cX10_areCrossingsHere 35 = .ok (.aload_n 0, 1) := by decide +kernel
theorem dX10_areCrossingsHere_36 : decode cX10_areCrossingsHere 36 = .ok (.getfield 26, 3) := by decide +kernel
theorem dX10_areCrossingsHere_39 : decode cX10_areCrossingsHere 39 = .ok (.iconst 2, 1) := by decide +kernel
theorem dX10_areCrossingsHere_40 : decode cX10_areCrossingsHere 40 = .ok (.iaload, 1) := by decide +kernel
theorem dX10_areCrossingsHere_41 : decode cX10_areCrossingsHere 41 = .ok (.iconst 1, 1) := by decide +kernel
theorem dX10_areCrossingsHere_42 : decode cX10_areCrossingsHere 42 = .ok (.isub, 1) := by decide +kernel
theorem dX10_areCrossingsHere_43 : decode cX10_areCrossingsHere 43 = .ok (.invokevirtual 167, 3) := by decide +kernel
theorem dX10_areCrossingsHere_46 : decode cX10_areCrossingsHere 46 = .ok (.ifCond .ne 5, 3) := by decide +kernel
theorem dX10_areCrossingsHere_49 : decode cX10_areCrossingsHere 49 = .ok (.iconst 0, 1) := by decide +kernel
theorem dX10_areCrossingsHere_50 : decode cX10_areCrossingsHere 50 = .ok (.ireturn, 1) := by decide +kernel
theorem dX10_areCrossingsHere_51 : decode cX10_areCrossingsHere 51 = .ok (.aload_n 0, 1) := by decide +kernel
theorem dX10_areCrossingsHere_52 : decode cX10_areCrossingsHere 52 = .ok (.iload_n 1, 1) := by decide +kernel
theorem dX10_areCrossingsHere_53 : decode cX10_areCrossingsHere 53 = .ok (.aload_n 0, 1) := by decide +kernel
theorem dX10_areCrossingsHere_54 : decode cX10_areCrossingsHere 54 = .ok (.getfield 115, 3) := by decide +kernel
theorem dX10_areCrossingsHere_57 : decode cX10_areCrossingsHere 57 = .ok (.iadd, 1) := by decide +kernel
theorem dX10_areCrossingsHere_58 : decode cX10_areCrossingsHere 58 = .ok (.iconst 0, 1) := by decide +kernel
theorem dX10_areCrossingsHere_59 : decode cX10_areCrossingsHere 59 = .ok (.aload_n 0, 1) := by decide +kernel
theorem dX10_areCrossingsHere_60 : decode cX10_areCrossingsHere 60 = .ok (.getfield 26, 3) := by decide +kernel
theorem dX10_areCrossingsHere_63 : decode cX10_areCrossingsHere 63 = .ok (.iconst 1, 1) := by decide +kernel
theorem dX10_areCrossingsHere_64 : decode cX10_areCrossingsHere 64 = .ok (.iaload, 1) := by decide +kernel
theorem dX10_areCrossingsHere_65 : decode cX10_areCrossingsHere 65 = .ok (.invokevirtual 218, 3) := by decide +kernel
theorem dX10_areCrossingsHere_68 : decode cX10_areCrossingsHere 68 = .ok (.ireturn, 1) := by decide +kernel
theorem dX10_isWantHere_0 : decode cX10_isWantHere 0 = .ok (.aload_n 0, 1) := by decide +kernel
theorem dX10_isWantHere_1 : decode cX10_isWantHere 1 = .ok (.getfield 26, 3) := by decide +kernel
theorem dX10_isWantHere_4 : decode cX10_isWantHere 4 = .ok (.iconst 5, 1) := by decide +kernel
theorem dX10_isWantHere_5 : decode cX10_isWantHere 5 = .ok (.iaload, 1) := by decide +kernel
theorem dX10_isWantHere_6 : decode cX10_isWantHere 6 = .ok (.bipush 8, 2) := by decide +kernel
theorem dX10_isWantHere_8 : decode cX10_isWantHere 8 = .ok (.if_icmp .ne 10, 3) := by decide +kernel
theorem dX10_isWantHere_11 : decode cX10_isWantHere 11 = .ok (.aload_n 0, 1) := by decide +kernel
theorem dX10_isWantHere_12 : decode cX10_isWantHere 12 = .ok (.iconst 4, 1) := by decide +kernel
theorem dX10_isWantHere_13 : decode cX10_isWantHere 13 = .ok (.iload_n 1, 1) := by decide +kernel
theorem dX10_isWantHere_14 : decode cX10_isWantHere 14 = .ok (.invokevirtual 111, 3) := by decide +kernel
theorem dX10_isWantHere_17 : decode cX10_isWantHere 17 = .ok (.ireturn, 1) := by decide +kernel
theorem dX10_isWantHere_18 : decode cX10_isWantHere 18 = .ok (.aload_n 0, 1) := by decide +kernel
theorem dX10_isWantHere_19 : decode cX10_isWantHere 19 = .ok (.invokevirtual 105, 3) := by decide +kernel
theorem dX10_isWantHere_22 : decode cX10_isWantHere 22 = .ok (.sipush 128, 3) := by decide +kernel
theorem dX10_isWantHere_25 : decode cX10_isWantHere 25 = .ok (.iconst 4, 1) := by decide +kernel
theorem dX10_isWantHere_26 : decode cX10_isWantHere 26 = .ok (.aload_n 0, 1) := by decide +kernel
theorem dX10_isWantHere_27 : decode cX10_isWantHere 27 = .ok (.getfield 26, 3) := by decide +kernel
theorem dX10_isWantHere_30 : decode cX10_isWantHere 30 = .ok (.iconst 5, 1) := by decide +kernel
theorem dX10_isWantHere_31 : decode cX10_isWantHere 31 = .ok (.iaload, 1) := by decide +kernel
theorem dX10_isWantHere_32 : decode cX10_isWantHere 32 = .ok (.imul, 1) := by decide +kernel
theorem dX10_isWantHere_33 : decode cX10_isWantHere 33 = .ok (.iadd, 1) := by decide +kernel
theorem dX10_isWantHere_34 : decode cX10_isWantHere 34 = .ok (.istore_n 2, 1) := by decide +kernel
theorem dX10_isWantHere_35 : decode cX10_isWantHere 35 = .ok (.aload_n 0, 1) := by decide +kernel
theorem dX10_isWantHere_36 : decode cX10_isWantHere 36 = .ok (.iload_n 2, 1) := by decide +kernel
theorem dX10_isWantHere_37 : decode cX10_isWantHere 37 = .ok (.iconst 0, 1) := by decide +kernel
theorem dX10_isWantHere_38 : decode cX10_isWantHere 38 = .ok (.aload_n 0, 1) := by decide +kernel
theorem dX10_isWantHere_39 : decode cX10_isWantHere 39 = .ok (.getfield 26, 3) := by decide +kernel
theorem dX10_isWantHere_42 : decode cX10_isWantHere 42 = .ok (.iconst 4, 1) := by decide +kernel
theorem dX10_isWantHere_43 : decode cX10_isWantHere 43 = .ok (.iaload, 1) := by decide +kernel
theorem dX10_isWantHere_44 : decode cX10_isWantHere 44 = .ok (.iconst 1, 1) := by decide +kernel
theorem dX10_isWantHere_45 : decode cX10_isWantHere 45 = .ok (.isub, 1) := by decide +kernel
theorem dX10_isWantHere_46 : decode cX10_isWantHere 46 = .ok (.invokevirtual 218, 3) := by decide +kernel
theorem dX10_isWantHere_49 : decode cX10_isWantHere 49 = .ok (.ifCond .eq 48, 3) := by decide +kernel
theorem dX10_isWantHere_52 : decode cX10_isWantHere 52 = .ok (.aload_n 0, 1) := by decide +kernel
theorem dX10_isWantHere_53 : decode cX10_isWantHere 53 = .ok (.iload_n 2, 1) := by decide +kernel
theorem dX10_isWantHere_54 : decode cX10_isWantHere 54 = .ok (.iconst 1, 1) := by decide +kernel
theorem dX10_isWantHere_55 : decode cX10_isWantHere 55 = .ok (.iadd, 1) := by decide +kernel
theorem dX10_isWantHere_56 : decode cX10_isWantHere 56 = .ok (.iconst 0, 1) := by decide +kernel
theorem dX10_isWantHere_57 : decode cX10_isWantHere 57 = .ok (.aload_n 0, 1) := by decide +kernel
theorem dX10_isWantHere_58 : decode cX10_isWantHere 58 = .ok (.getfield 26, 3) := by decide +kernel
theorem dX10_isWantHere_61 : decode cX10_isWantHere 61 = .ok (.iconst 0, 1) := by decide +kernel
theorem dX10_isWantHere_62 : decode cX10_isWantHere 62 = .ok (.iaload, 1) := by decide +kernel
theorem dX10_isWantHere_63 : decode cX10_isWantHere 63 = .ok (.iconst 1, 1) := by decide +kernel
theorem dX10_isWantHere_64 : decode cX10_isWantHere 64 = .ok (.isub, 1) := by decide +kernel
theorem dX10_isWantHere_65 : decode cX10_isWantHere 65 = .ok (.invokevirtual 218, 3) := by decide +kernel
theorem dX10_isWantHere_68 : decode cX10_isWantHere 68 = .ok (.ifCond .eq 29, 3) := by decide +kernel
theorem dX10_isWantHere_71 : decode cX10_isWantHere 71 = .ok (.aload_n 0, 1) := by decide +kernel
theorem dX10_isWantHere_72 : decode cX10_isWantHere 72 = .ok (.iload_n 2, 1) := by decide +kernel
theorem dX10_isWantHere_73 : decode cX10_isWantHere 73 = .ok (.iconst 2, 1) := by decide +kernel
theorem dX10_isWantHere_74 : decode cX10_isWantHere 74 = .ok (.iadd, 1) := by decide +kernel
theorem dX10_isWantHere_75 : decode cX10_isWantHere 75 = .ok (.iconst 0, 1) := by decide +kernel
theorem dX10_isWantHere_76 : decode cX10_isWantHere 76 = .ok (.bipush 99, 2) := by decide +kernel
theorem dX10_isWantHere_78 : decode cX10_isWantHere 78 = .ok (.invokevirtual 218, 3) := by decide +kernel
theorem dX10_isWantHere_81 : decode cX10_isWantHere 81 = .ok (.ifCond .eq 16, 3) := by decide +kernel
theorem dX10_isWantHere_84 : decode cX10_isWantHere 84 = .ok (.aload_n 0, 1) := by decide +kernel
theorem dX10_isWantHere_85 : decode cX10_isWantHere 85 = .ok (.iload_n 2, 1) := by decide +kernel
theorem dX10_isWantHere_86 : decode cX10_isWantHere 86 = .ok (.iconst 3, 1) := by decide +kernel
theorem dX10_isWantHere_87 : decode cX10_isWantHere 87 = .ok (.iadd, 1) := by decide +kernel
theorem dX10_isWantHere_88 : decode cX10_isWantHere 88 = .ok (.iconst 1, 1) := by decide +kernel
theorem dX10_isWantHere_89 : decode cX10_isWantHere 89 = .ok (.bipush 50, 2) := by decide +kernel
theorem dX10_isWantHere_91 : decode cX10_isWantHere 91 = .ok (.invokevirtual 218, 3) := by decide +kernel
theorem dX10_isWantHere_94 : decode cX10_isWantHere 94 = .ok (.ifCond .ne 5, 3) := by decide +kernel
theorem dX10_isWantHere_97 : decode cX10_isWantHere 97 = .ok (.iconst 0, 1) := by decide +kernel
theorem dX10_isWantHere_98 : decode cX10_isWantHere 98 = .ok (.ireturn, 1) := by decide +kernel
theorem dX10_isWantHere_99 : decode cX10_isWantHere 99 = .ok (.aload_n 0, 1) := by decide +kernel
theorem dX10_isWantHere_100 : decode cX10_isWantHere 100 = .ok (.getfield 26, 3) := by decide +kernel
theorem dX10_isWantHere_103 : decode cX10_isWantHere 103 = .ok (.iconst 5, 1) := by decide +kernel
theorem dX10_isWantHere_104 : decode cX10_isWantHere 104 = .ok (.dup2, 1) := by decide +kernel
theorem dX10_isWantHere_105 : decode cX10_isWantHere 105 = .ok (.iaload, 1) := by decide +kernel
theorem dX10_isWantHere_106 : decode cX10_isWantHere 106 = .ok (.iconst 1, 1) := by decide +kernel
theorem dX10_isWantHere_107 : decode cX10_isWantHere 107 = .ok (.iadd, 1) := by decide +kernel
theorem dX10_isWantHere_108 : decode cX10_isWantHere 108 = .ok (.iastore, 1) := by decide +kernel
theorem dX10_isWantHere_109 : decode cX10_isWantHere 109 = .ok (.iconst 1, 1) := by decide +kernel
theorem dX10_isWantHere_110 : decode cX10_isWantHere 110 = .ok (.ireturn, 1) := by decide +kernel
theorem dX10_townLineHere_0 : decode cX10_townLineHere 0 = .ok (.aload_n 0, 1) := by decide +kernel
theorem dX10_townLineHere_1 : decode cX10_townLineHere 1 = .ok (.ldc2_w 225, 3) := by decide +kernel
theorem dX10_townLineHere_4 : decode cX10_townLineHere 4 = .ok (.invokevirtual 101, 3) := by decide +kernel
theorem dX10_townLineHere_7 : decode cX10_townLineHere 7 = .ok (.ifCond .eq 9, 3) := by decide +kernel
theorem dX10_townLineHere_10 : decode cX10_townLineHere 10 = .ok (.aload_n 0, 1) := by decide +kernel
theorem dX10_townLineHere_11 : decode cX10_townLineHere 11 = .ok (.iload_n 1, 1) := by decide +kernel
theorem dX10_townLineHere_12 : decode cX10_townLineHere 12 = .ok (.invokevirtual 227, 3) := by decide +kernel
theorem dX10_townLineHere_15 : decode cX10_townLineHere 15 = .ok (.ireturn, 1) := by decide +kernel
theorem dX10_townLineHere_16 : decode cX10_townLineHere 16 = .ok (.aload_n 0, 1) := by decide +kernel
theorem dX10_townLineHere_17 : decode cX10_townLineHere 17 = .ok (.getfield 26, 3) := by decide +kernel
theorem dX10_townLineHere_20 : decode cX10_townLineHere 20 = .ok (.iconst 0, 1) := by decide +kernel
theorem dX10_townLineHere_21 : decode cX10_townLineHere 21 = .ok (.iaload, 1) := by decide +kernel
theorem dX10_townLineHere_22 : decode cX10_townLineHere 22 = .ok (.ifCond .ne 10, 3) := by decide +kernel
theorem dX10_townLineHere_25 : decode cX10_townLineHere 25 = .ok (.aload_n 0, 1) := by decide +kernel
theorem dX10_townLineHere_26 : decode cX10_townLineHere 26 = .ok (.iconst 4, 1) := by decide +kernel
theorem dX10_townLineHere_27 : decode cX10_townLineHere 27 = .ok (.iload_n 1, 1) := by decide +kernel
theorem dX10_townLineHere_28 : decode cX10_townLineHere 28 = .ok (.invokevirtual 111, 3) := by decide +kernel
theorem dX10_townLineHere_31 : decode cX10_townLineHere 31 = .ok (.ireturn, 1) := by decide +kernel
theorem dX10_townLineHere_32 : decode cX10_townLineHere 32 = .ok (.aload_n 0, 1) := by decide +kernel
theorem dX10_townLineHere_33 : decode cX10_townLineHere 33 = .ok (.ldc2_w 124, 3) := by decide +kernel
theorem dX10_townLineHere_36 : decode cX10_townLineHere 36 = .ok (.invokevirtual 101, 3) := by decide +kernel
theorem dX10_townLineHere_39 : decode cX10_townLineHere 39 = .ok (.ifCond .eq 9, 3) := by decide +kernel
theorem dX10_townLineHere_42 : decode cX10_townLineHere 42 = .ok (.aload_n 0, 1) := by decide +kernel
theorem dX10_townLineHere_43 : decode cX10_townLineHere 43 = .ok (.iload_n 1, 1) := by decide +kernel
theorem dX10_townLineHere_44 : decode cX10_townLineHere 44 = .ok (.invokevirtual 230, 3) := by decide +kernel
theorem dX10_townLineHere_47 : decode cX10_townLineHere 47 = .ok (.ireturn, 1) := by decide +kernel
theorem dX10_townLineHere_48 : decode cX10_townLineHere 48 = .ok (.aload_n 0, 1) := by decide +kernel
theorem dX10_townLineHere_49 : decode cX10_townLineHere 49 = .ok (.ldc2_w 233, 3) := by decide +kernel
theorem dX10_townLineHere_52 : decode cX10_townLineHere 52 = .ok (.invokevirtual 101, 3) := by decide +kernel
theorem dX10_townLineHere_55 : decode cX10_townLineHere 55 = .ok (.ifCond .eq 9, 3) := by decide +kernel
theorem dX10_townLineHere_58 : decode cX10_townLineHere 58 = .ok (.aload_n 0, 1) := by decide +kernel
theorem dX10_townLineHere_59 : decode cX10_townLineHere 59 = .ok (.iload_n 1, 1) := by decide +kernel
theorem dX10_townLineHere_60 : decode cX10_townLineHere 60 = .ok (.invokevirtual 235, 3) := by decide +kernel
theorem dX10_townLineHere_63 : decode cX10_townLineHere 63 = .ok (.ireturn, 1) := by decide +kernel
theorem dX10_townLineHere_64 : decode cX10_townLineHere 64 = .ok (.aload_n 0, 1) := by decide +kernel
theorem dX10_townLineHere_65 : decode cX10_townLineHere 65 = .ok (.ldc2_w 238, 3) := by decide +kernel
theorem dX10_townLineHere_68 : decode cX10_townLineHere 68 = .ok (.invokevirtual 101, 3) := by decide +kernel
theorem dX10_townLineHere_71 : decode cX10_townLineHere 71 = .ok (.ifCond .eq 9, 3) := by decide +kernel
theorem dX10_townLineHere_74 : decode cX10_townLineHere 74 = .ok (.aload_n 0, 1) := by decide +kernel
theorem dX10_townLineHere_75 : decode cX10_townLineHere 75 = .ok (.iload_n 1, 1) := by decide +kernel
theorem dX10_townLineHere_76 : decode cX10_townLineHere 76 = .ok (.invokevirtual 240, 3) := by decide +kernel
theorem dX10_townLineHere_79 : decode cX10_townLineHere 79 = .ok (.ireturn, 1) := by decide +kernel
theorem dX10_townLineHere_80 : decode cX10_townLineHere 80 = .ok (.aload_n 0, 1) := by decide +kernel
theorem dX10_townLineHere_81 : decode cX10_townLineHere 81 = .ok (.ldc2_w 122, 3) := by decide +kernel
theorem dX10_townLineHere_84 : decode cX10_townLineHere 84 = .ok (.invokevirtual 101, 3) := by decide +kernel
theorem dX10_townLineHere_87 : decode cX10_townLineHere 87 = .ok (.ifCond .eq 9, 3) := by decide +kernel
theorem dX10_townLineHere_90 : decode cX10_townLineHere 90 = .ok (.aload_n 0, 1) := by decide +kernel
theorem dX10_townLineHere_91 : decode cX10_townLineHere 91 = .ok (.iload_n 1, 1) := by decide +kernel
theorem dX10_townLineHere_92 : decode cX10_townLineHere 92 = .ok (.invokevirtual 243, 3) := by decide +kernel
theorem dX10_townLineHere_95 : decode cX10_townLineHere 95 = .ok (.ireturn, 1) := by decide +kernel
theorem dX10_townLineHere_96 : decode cX10_townLineHere 96 = .ok (.aload_n 0, 1) := by decide +kernel
theorem dX10_townLineHere_97 : decode cX10_townLineHere 97 = .ok (.ldc2_w 246, 3) := by decide +kernel
theorem dX10_townLineHere_100 : decode cX10_townLineHere 100 = .ok (.invokevirtual 101, 3) := by decide +kernel
theorem dX10_townLineHere_103 : decode cX10_townLineHere 103 = .ok (.ifCond .eq 10, 3) := by decide +kernel
theorem dX10_townLineHere_106 : decode cX10_townLineHere 106 = .ok (.aload_n 0, 1) := by decide +kernel
theorem dX10_townLineHere_107 : decode cX10_townLineHere 107 = .ok (.invokevirtual 248, 3) := by decide +kernel
theorem dX10_townLineHere_110 : decode cX10_townLineHere 110 = .ok (.goto 8, 3) := by decide +kernel
theorem dX10_townLineHere_113 : decode cX10_townLineHere 113 = .ok (.aload_n 0, 1) := by decide +kernel
theorem dX10_townLineHere_114 : decode cX10_townLineHere 114 = .ok (.iload_n 1, 1) := by decide +kernel
theorem dX10_townLineHere_115 : decode cX10_townLineHere 115 = .ok (.invokevirtual 251, 3) := by decide +kernel
theorem dX10_townLineHere_118 : decode cX10_townLineHere 118 = .ok (.ireturn, 1) := by decide +kernel
theorem dX10_isTownWord_0 : decode cX10_isTownWord 0 = .ok (.aload_n 0, 1) := by decide +kernel
theorem dX10_isTownWord_1 : decode cX10_isTownWord 1 = .ok (.ldc2_w 225, 3) := by decide +kernel
theorem dX10_isTownWord_4 : decode cX10_isTownWord 4 = .ok (.invokevirtual 101, 3) := by decide +kernel
theorem dX10_isTownWord_7 : decode cX10_isTownWord 7 = .ok (.ifCond .ne 33, 3) := by decide +kernel
theorem dX10_isTownWord_10 : decode cX10_isTownWord 10 = .ok (.aload_n 0, 1) := by decide +kernel
theorem dX10_isTownWord_11 : decode cX10_isTownWord 11 = .ok (.ldc2_w 124, 3) := by decide +kernel
theorem dX10_isTownWord_14 : decode cX10_isTownWord 14 = .ok (.invokevirtual 101, 3) := by decide +kernel
theorem dX10_isTownWord_17 : decode cX10_isTownWord 17 = .ok (.ifCond .ne 23, 3) := by decide +kernel
theorem dX10_isTownWord_20 : decode cX10_isTownWord 20 = .ok (.aload_n 0, 1) := by decide +kernel
theorem dX10_isTownWord_21 : decode cX10_isTownWord 21 = .ok (.ldc2_w 233, 3) := by decide +kernel
theorem dX10_isTownWord_24 : decode cX10_isTownWord 24 = .ok (.invokevirtual 101, 3) := by decide +kernel
theorem dX10_isTownWord_27 : decode cX10_isTownWord 27 = .ok (.ifCond .ne 13, 3) := by decide +kernel
theorem dX10_isTownWord_30 : decode cX10_isTownWord 30 = .ok (.aload_n 0, 1) := by decide +kernel
theorem dX10_isTownWord_31 : decode cX10_isTownWord 31 = .ok (.ldc2_w 238, 3) := by decide +kernel
theorem dX10_isTownWord_34 : decode cX10_isTownWord 34 = .ok (.invokevirtual 101, 3) := by decide +kernel
theorem dX10_isTownWord_37 : decode cX10_isTownWord 37 = .ok (.ifCond .eq 7, 3) := by decide +kernel
theorem dX10_isTownWord_40 : decode cX10_isTownWord 40 = .ok (.iconst 1, 1) := by decide +kernel
theorem dX10_isTownWord_41 : decode cX10_isTownWord 41 = .ok (.goto 4, 3) := by decide +kernel
theorem dX10_isTownWord_44 : decode cX10_isTownWord 44 = .ok (.iconst 0, 1) := by decide +kernel
theorem dX10_isTownWord_45 : decode cX10_isTownWord 45 = .ok (.istore_n 1, 1) := by decide +kernel
theorem dX10_isTownWord_46 : decode cX10_isTownWord 46 = .ok (.iload_n 1, 1) := by decide +kernel
theorem dX10_isTownWord_47 : decode cX10_isTownWord 47 = .ok (.ifCond .ne 33, 3) := by decide +kernel
theorem dX10_isTownWord_50 : decode cX10_isTownWord 50 = .ok (.aload_n 0, 1) := by decide +kernel
theorem dX10_isTownWord_51 : decode cX10_isTownWord 51 = .ok (.ldc2_w 122, 3) := by decide +kernel
theorem dX10_isTownWord_54 : decode cX10_isTownWord 54 = .ok (.invokevirtual 101, 3) := by decide +kernel
theorem dX10_isTownWord_57 : decode cX10_isTownWord 57 = .ok (.ifCond .ne 23, 3) := by decide +kernel
theorem dX10_isTownWord_60 : decode cX10_isTownWord 60 = .ok (.aload_n 0, 1) := by decide +kernel
theorem dX10_isTownWord_61 : decode cX10_isTownWord 61 = .ok (.ldc2_w 246, 3) := by decide +kernel
theorem dX10_isTownWord_64 : decode cX10_isTownWord 64 = .ok (.invokevirtual 101, 3) := by decide +kernel
theorem dX10_isTownWord_67 : decode cX10_isTownWord 67 = .ok (.ifCond .ne 13, 3) := by decide +kernel
theorem dX10_isTownWord_70 : decode cX10_isTownWord 70 = .ok (.aload_n 0, 1) := by decide +kernel
theorem dX10_isTownWord_71 : decode cX10_isTownWord 71 = .ok (.ldc2_w 254, 3) := by decide +kernel
theorem dX10_isTownWord_74 : decode cX10_isTownWord 74 = .ok (.invokevirtual 101, 3) := by decide +kernel
theorem dX10_isTownWord_77 : decode cX10_isTownWord 77 = .ok (.ifCond .eq 7, 3) := by decide +kernel
theorem dX10_isTownWord_80 : decode cX10_isTownWord 80 = .ok (.iconst 1, 1) := by decide +kernel
theorem dX10_isTownWord_81 : decode cX10_isTownWord 81 = .ok (.goto 4, 3) := by decide +kernel
theorem dX10_isTownWord_84 : decode cX10_isTownWord 84 = .ok (.iconst 0, 1) := by decide +kernel
theorem dX10_isTownWord_85 : decode cX10_isTownWord 85 = .ok (.ireturn, 1) := by decide +kernel
theorem dX10_clauseHere_0 : decode cX10_clauseHere 0 = .ok (.aload_n 0, 1) := by decide +kernel
theorem dX10_clauseHere_1 : decode cX10_clauseHere 1 = .ok (.invokevirtual 93, 3) := by decide +kernel
theorem dX10_clauseHere_4 : decode cX10_clauseHere 4 = .ok (.pop, 1) := by decide +kernel
theorem dX10_clauseHere_5 : decode cX10_clauseHere 5 = .ok (.aload_n 0, 1) := by decide +kernel
theorem dX10_clauseHere_6 : decode cX10_clauseHere 6 = .ok (.getfield 90, 3) := by decide +kernel
theorem dX10_clauseHere_9 : decode cX10_clauseHere 9 = .ok (.istore_n 1, 1) := by decide +kernel
theorem dX10_clauseHere_10 : decode cX10_clauseHere 10 = .ok (.aload_n 0, 1) := by decide +kernel
theorem dX10_clauseHere_11 : decode cX10_clauseHere 11 = .ok (.getfield 146, 3) := by decide +kernel
theorem dX10_clauseHere_14 : decode cX10_clauseHere 14 = .ok (.bipush 6, 2) := by decide +kernel
theorem dX10_clauseHere_16 : decode cX10_clauseHere 16 = .ok (.if_icmp .ne 7, 3) := by decide +kernel
theorem dX10_clauseHere_19 : decode cX10_clauseHere 19 = .ok (.iconst 1, 1) := by decide +kernel
theorem dX10_clauseHere_20 : decode cX10_clauseHere 20 = .ok (.goto 4, 3) := by decide +kernel
theorem dX10_clauseHere_23 : decode cX10_clauseHere 23 = .ok (.iconst 0, 1) := by decide +kernel
theorem dX10_clauseHere_24 : decode cX10_clauseHere 24 = .ok (.istore_n 2, 1) := by decide +kernel
theorem dX10_clauseHere_25 : decode cX10_clauseHere 25 = .ok (.iload_n 2, 1) := by decide +kernel
theorem dX10_clauseHere_26 : decode cX10_clauseHere 26 = .ok (.ifCond .eq 13, 3) := by decide +kernel
theorem dX10_clauseHere_29 : decode cX10_clauseHere 29 = .ok (.aload_n 0, 1) := by decide +kernel
theorem dX10_clauseHere_30 : decode cX10_clauseHere 30 = .ok (.invokevirtual 256, 3) := by decide +kernel
theorem dX10_clauseHere_33 : decode cX10_clauseHere 33 = .ok (.ifCond .ne 23, 3) := by decide +kernel
theorem dX10_clauseHere_36 : decode cX10_clauseHere 36 = .ok (.goto 13, 3) := by decide +kernel
theorem dX10_clauseHere_39 : decode cX10_clauseHere 39 = .ok (.aload_n 0, 1) := by decide +kernel
theorem dX10_clauseHere_40 : decode cX10_clauseHere 40 = .ok (.ldc2_w 259, 3) := by decide +kernel
theorem dX10_clauseHere_43 : decode cX10_clauseHere 43 = .ok (.invokevirtual 101, 3) := by decide +kernel
theorem dX10_clauseHere_46 : decode cX10_clauseHere 46 = .ok (.ifCond .ne 10, 3) := by decide +kernel
theorem dX10_clauseHere_49 : decode cX10_clauseHere 49 = .ok (.aload_n 0, 1) := by decide +kernel
theorem dX10_clauseHere_50 : decode cX10_clauseHere 50 = .ok (.iconst 0, 1) := by decide +kernel
theorem dX10_clauseHere_51 : decode cX10_clauseHere 51 = .ok (.iload_n 1, 1) := by decide +kernel
theorem dX10_clauseHere_52 : decode cX10_clauseHere 52 = .ok (.invokevirtual 111, 3) := by decide +kernel
theorem dX10_clauseHere_55 : decode cX10_clauseHere 55 = .ok (.ireturn, 1) := by decide +kernel
theorem dX10_clauseHere_56 : decode cX10_clauseHere 56 = .ok (.aload_n 0, 1) := by decide +kernel
theorem dX10_clauseHere_57 : decode cX10_clauseHere 57 = .ok (.getfield 261, 3) := by decide +kernel
theorem dX10_clauseHere_60 : decode cX10_clauseHere 60 = .ok (.iload_n 2, 1) := by decide +kernel
theorem dX10_clauseHere_61 : decode cX10_clauseHere 61 = .ok (.ifCond .eq 8, 3) := by decide +kernel
theorem dX10_clauseHere_64 : decode cX10_clauseHere 64 = .ok (.bipush 40, 2) := by decide +kernel
theorem dX10_clauseHere_66 : decode cX10_clauseHere 66 = .ok (.goto 5, 3) := by decide +kernel
theorem dX10_clauseHere_69 : decode cX10_clauseHere 69 = .ok (.bipush 12, 2) := by decide +kernel
theorem dX10_clauseHere_71 : decode cX10_clauseHere 71 = .ok (.if_icmp .ne 10, 3) := by decide +kernel
theorem dX10_clauseHere_74 : decode cX10_clauseHere 74 = .ok (.aload_n 0, 1) := by decide +kernel
theorem dX10_clauseHere_75 : decode cX10_clauseHere 75 = .ok (.iconst 4, 1) := by decide +kernel
theorem dX10_clauseHere_76 : decode cX10_clauseHere 76 = .ok (.iload_n 1, 1) := by decide +kernel
theorem dX10_clauseHere_77 : decode cX10_clauseHere 77 = .ok (.invokevirtual 111, 3) := by decide +kernel
theorem dX10_clauseHere_80 : decode cX10_clauseHere 80 = .ok (.ireturn, 1) := by decide +kernel
theorem dX10_clauseHere_81 : decode cX10_clauseHere 81 = .ok (.aload_n 0, 1) := by decide +kernel
theorem dX10_clauseHere_82 : decode cX10_clauseHere 82 = .ok (.dup, 1) := by decide +kernel
theorem dX10_clauseHere_83 : decode cX10_clauseHere 83 = .ok (.getfield 261, 3) := by decide +kernel
theorem dX10_clauseHere_86 : decode cX10_clauseHere 86 = .ok (.iconst 1, 1) := by decide +kernel
theorem dX10_clauseHere_87 : decode cX10_clauseHere 87 = .ok (.iadd, 1) := by decide +kernel
theorem dX10_clauseHere_88 : decode cX10_clauseHere 88 = .ok (.putfield 261, 3) := by decide +kernel
theorem dX10_clauseHere_91 : decode cX10_clauseHere 91 = .ok (.iload_n 2, 1) := by decide +kernel
theorem dX10_clauseHere_92 : decode cX10_clauseHere 92 = .ok (.ifCond .eq 11, 3) := by decide +kernel
theorem dX10_clauseHere_95 : decode cX10_clauseHere 95 = .ok (.aload_n 0, 1) := by decide +kernel
theorem dX10_clauseHere_96 : decode cX10_clauseHere 96 = .ok (.iload_n 1, 1) := by decide +kernel
theorem dX10_clauseHere_97 : decode cX10_clauseHere 97 = .ok (.invokevirtual 264, 3) := by decide +kernel
theorem dX10_clauseHere_100 : decode cX10_clauseHere 100 = .ok (.goto 7, 3) := by decide +kernel
theorem dX10_clauseHere_103 : decode cX10_clauseHere 103 = .ok (.aload_n 0, 1) := by decide +kernel
theorem dX10_clauseHere_104 : decode cX10_clauseHere 104 = .ok (.invokevirtual 267, 3) := by decide +kernel
theorem dX10_clauseHere_107 : decode cX10_clauseHere 107 = .ok (.ireturn, 1) := by decide +kernel
theorem dX10_readsAll_0 : decode cX10_readsAll 0 = .ok (.aload_n 0, 1) := by decide +kernel
theorem dX10_readsAll_1 : decode cX10_readsAll 1 = .ok (.getfield 17, 3) := by decide +kernel
theorem dX10_readsAll_4 : decode cX10_readsAll 4 = .ok (.aload_n 0, 1) := by decide +kernel
theorem dX10_readsAll_5 : decode cX10_readsAll 5 = .ok (.getfield 146, 3) := by decide +kernel
theorem dX10_readsAll_8 : decode cX10_readsAll 8 = .ok (.iconst 0, 1) := by decide +kernel
theorem dX10_readsAll_9 : decode cX10_readsAll 9 = .ok (.iastore, 1) := by decide +kernel
theorem dX10_readsAll_10 : decode cX10_readsAll 10 = .ok (.aload_n 0, 1) := by decide +kernel
theorem dX10_readsAll_11 : decode cX10_readsAll 11 = .ok (.iconst 0, 1) := by decide +kernel
theorem dX10_readsAll_12 : decode cX10_readsAll 12 = .ok (.putfield 261, 3) := by decide +kernel
theorem dX10_readsAll_15 : decode cX10_readsAll 15 = .ok (.aload_n 0, 1) := by decide +kernel
theorem dX10_readsAll_16 : decode cX10_readsAll 16 = .ok (.iconst 0, 1) := by decide +kernel
theorem dX10_readsAll_17 : decode cX10_readsAll 17 = .ok (.putfield 90, 3) := by decide +kernel
theorem dX10_readsAll_20 : decode cX10_readsAll 20 = .ok (.aload_n 0, 1) := by decide +kernel
theorem dX10_readsAll_21 : decode cX10_readsAll 21 = .ok (.iconst 0, 1) := by decide +kernel
theorem dX10_readsAll_22 : decode cX10_readsAll 22 = .ok (.putfield 87, 3) := by decide +kernel
theorem dX10_readsAll_25 : decode cX10_readsAll 25 = .ok (.aload_n 0, 1) := by decide +kernel
theorem dX10_readsAll_26 : decode cX10_readsAll 26 = .ok (.iconst 0, 1) := by decide +kernel
theorem dX10_readsAll_27 : decode cX10_readsAll 27 = .ok (.putfield 149, 3) := by decide +kernel
theorem dX10_readsAll_30 : decode cX10_readsAll 30 = .ok (.aload_n 0, 1) := by decide +kernel
theorem dX10_readsAll_31 : decode cX10_readsAll 31 = .ok (.invokevirtual 270, 3) := by decide +kernel
theorem dX10_readsAll_34 : decode cX10_readsAll 34 = .ok (.istore_n 1, 1) := by decide +kernel
theorem dX10_readsAll_35 : decode cX10_readsAll 35 = .ok (.iload_n 1, 1) := by decide +kernel
theorem dX10_readsAll_36 : decode cX10_readsAll 36 = .ok (.ifCond .eq 30, 3) := by decide +kernel
theorem dX10_readsAll_39 : decode cX10_readsAll 39 = .ok (.aload_n 0, 1) := by decide +kernel
theorem dX10_readsAll_40 : decode cX10_readsAll 40 = .ok (.invokevirtual 93, 3) := by decide +kernel
theorem dX10_readsAll_43 : decode cX10_readsAll 43 = .ok (.bipush 59, 2) := by decide +kernel
theorem dX10_readsAll_45 : decode cX10_readsAll 45 = .ok (.if_icmp .ne 21, 3) := by decide +kernel
theorem dX10_readsAll_48 : decode cX10_readsAll 48 = .ok (.aload_n 0, 1) := by decide +kernel
theorem dX10_readsAll_49 : decode cX10_readsAll 49 = .ok (.dup, 1) := by decide +kernel
theorem dX10_readsAll_50 : decode cX10_readsAll 50 = .ok (.getfield 90, 3) := by decide +kernel
theorem dX10_readsAll_53 : decode cX10_readsAll 53 = .ok (.iconst 1, 1) := by decide +kernel
theorem dX10_readsAll_54 : decode cX10_readsAll 54 = .ok (.iadd, 1) := by decide +kernel
theorem dX10_readsAll_55 : decode cX10_readsAll 55 = .ok (.putfield 90, 3) := by decide +kernel
theorem dX10_readsAll_58 : decode cX10_readsAll 58 = .ok (.aload_n 0, 1) := by decide +kernel
theorem dX10_readsAll_59 : decode cX10_readsAll 59 = .ok (.invokevirtual 270, 3) := by decide +kernel
theorem dX10_readsAll_62 : decode cX10_readsAll 62 = .ok (.istore_n 1, 1) := by decide +kernel
theorem dX10_readsAll_63 : decode cX10_readsAll 63 = .ok (.goto (-28), 3) := by decide +kernel
theorem dX10_readsAll_66 : decode cX10_readsAll 66 = .ok (.iload_n 1, 1) := by decide +kernel
theorem dX10_readsAll_67 : decode cX10_readsAll 67 = .ok (.ifCond .eq 21, 3) := by decide +kernel
theorem dX10_readsAll_70 : decode cX10_readsAll 70 = .ok (.aload_n 0, 1) := by decide +kernel
theorem dX10_readsAll_71 : decode cX10_readsAll 71 = .ok (.invokevirtual 93, 3) := by decide +kernel
theorem dX10_readsAll_74 : decode cX10_readsAll 74 = .ok (.iconst (-1), 1) := by decide +kernel
theorem dX10_readsAll_75 : decode cX10_readsAll 75 = .ok (.if_icmp .eq 13, 3) := by decide +kernel
theorem dX10_readsAll_78 : decode cX10_readsAll 78 = .ok (.aload_n 0, 1) := by decide +kernel
theorem dX10_readsAll_79 : decode cX10_readsAll 79 = .ok (.iconst 0, 1) := by decide +kernel
theorem dX10_readsAll_80 : decode cX10_readsAll 80 = .ok (.aload_n 0, 1) := by decide +kernel
theorem dX10_readsAll_81 : decode cX10_readsAll 81 = .ok (.getfield 90, 3) := by decide +kernel
theorem dX10_readsAll_84 : decode cX10_readsAll 84 = .ok (.invokevirtual 111, 3) := by decide +kernel
theorem dX10_readsAll_87 : decode cX10_readsAll 87 = .ok (.pop, 1) := by decide +kernel
theorem dX10_readsAll_88 : decode cX10_readsAll 88 = .ok (.aload_n 0, 1) := by decide +kernel
theorem dX10_readsAll_89 : decode cX10_readsAll 89 = .ok (.iconst 0, 1) := by decide +kernel
theorem dX10_readsAll_90 : decode cX10_readsAll 90 = .ok (.putfield 79, 3) := by decide +kernel
theorem dX10_readsAll_93 : decode cX10_readsAll 93 = .ok (.aload_n 0, 1) := by decide +kernel
theorem dX10_readsAll_94 : decode cX10_readsAll 94 = .ok (.getfield 87, 3) := by decide +kernel
theorem dX10_readsAll_97 : decode cX10_readsAll 97 = .ok (.ifCond .ne 7, 3) := by decide +kernel
theorem dX10_readsAll_100 : decode cX10_readsAll 100 = .ok (.iconst 1, 1) := by decide +kernel
theorem dX10_readsAll_101 : decode cX10_readsAll 101 = .ok (.goto 4, 3) := by decide +kernel
theorem dX10_readsAll_104 : decode cX10_readsAll 104 = .ok (.iconst 0, 1) := by decide +kernel
theorem dX10_readsAll_105 : decode cX10_readsAll 105 = .ok (.ireturn, 1) := by decide +kernel
theorem dX10_rule_0 : decode cX10_rule 0 = .ok (.aload_n 0, 1) := by decide +kernel
theorem dX10_rule_1 : decode cX10_rule 1 = .ok (.getfield 273, 3) := by decide +kernel
theorem dX10_rule_4 : decode cX10_rule 4 = .ok (.bipush 6, 2) := by decide +kernel
theorem dX10_rule_6 : decode cX10_rule 6 = .ok (.if_icmp .ne 5, 3) := by decide +kernel
theorem dX10_rule_9 : decode cX10_rule 9 = .ok (.iconst (-1), 1) := by decide +kernel
theorem dX10_rule_10 : decode cX10_rule 10 = .ok (.ireturn, 1) := by decide +kernel
theorem dX10_rule_11 : decode cX10_rule 11 = .ok (.aload_n 0, 1) := by decide +kernel
theorem dX10_rule_12 : decode cX10_rule 12 = .ok (.aload_n 0, 1) := by decide +kernel
theorem dX10_rule_13 : decode cX10_rule 13 = .ok (.getfield 273, 3) := by decide +kernel
theorem dX10_rule_16 : decode cX10_rule 16 = .ok (.putfield 146, 3) := by decide +kernel
theorem dX10_rule_19 : decode cX10_rule 19 = .ok (.aload_n 0, 1) := by decide +kernel
theorem dX10_rule_20 : decode cX10_rule 20 = .ok (.getfield 23, 3) := by decide +kernel
theorem dX10_rule_23 : decode cX10_rule 23 = .ok (.aload_n 0, 1) := by decide +kernel
theorem dX10_rule_24 : decode cX10_rule 24 = .ok (.getfield 146, 3) := by decide +kernel
theorem dX10_rule_27 : decode cX10_rule 27 = .ok (.iconst 0, 1) := by decide +kernel
theorem dX10_rule_28 : decode cX10_rule 28 = .ok (.iastore, 1) := by decide +kernel
theorem dX10_rule_29 : decode cX10_rule 29 = .ok (.aload_n 0, 1) := by decide +kernel
theorem dX10_rule_30 : decode cX10_rule 30 = .ok (.invokevirtual 276, 3) := by decide +kernel
theorem dX10_rule_33 : decode cX10_rule 33 = .ok (.ifCond .ne 11, 3) := by decide +kernel
theorem dX10_rule_36 : decode cX10_rule 36 = .ok (.bipush (-2), 2) := by decide +kernel
theorem dX10_rule_38 : decode cX10_rule 38 = .ok (.aload_n 0, 1) := by decide +kernel
theorem dX10_rule_39 : decode cX10_rule 39 = .ok (.getfield 87, 3) := by decide +kernel
theorem dX10_rule_42 : decode cX10_rule 42 = .ok (.isub, 1) := by decide +kernel
theorem dX10_rule_43 : decode cX10_rule 43 = .ok (.ireturn, 1) := by decide +kernel
theorem dX10_rule_44 : decode cX10_rule 44 = .ok (.aload_n 0, 1) := by decide +kernel
theorem dX10_rule_45 : decode cX10_rule 45 = .ok (.dup, 1) := by decide +kernel
theorem dX10_rule_46 : decode cX10_rule 46 = .ok (.getfield 273, 3) := by decide +kernel
theorem dX10_rule_49 : decode cX10_rule 49 = .ok (.iconst 1, 1) := by decide +kernel
theorem dX10_rule_50 : decode cX10_rule 50 = .ok (.iadd, 1) := by decide +kernel
theorem dX10_rule_51 : decode cX10_rule 51 = .ok (.putfield 273, 3) := by decide +kernel
theorem dX10_rule_54 : decode cX10_rule 54 = .ok (.aload_n 0, 1) := by decide +kernel
theorem dX10_rule_55 : decode cX10_rule 55 = .ok (.getfield 273, 3) := by decide +kernel
theorem dX10_rule_58 : decode cX10_rule 58 = .ok (.iconst 1, 1) := by decide +kernel
theorem dX10_rule_59 : decode cX10_rule 59 = .ok (.isub, 1) := by decide +kernel
theorem dX10_rule_60 : decode cX10_rule 60 = .ok (.ireturn, 1) := by decide +kernel
theorem dX10_town_0 : decode cX10_town 0 = .ok (.aload_n 0, 1) := by decide +kernel
theorem dX10_town_1 : decode cX10_town 1 = .ok (.bipush 6, 2) := by decide +kernel
theorem dX10_town_3 : decode cX10_town 3 = .ok (.putfield 146, 3) := by decide +kernel
theorem dX10_town_6 : decode cX10_town 6 = .ok (.iconst 0, 1) := by decide +kernel
theorem dX10_town_7 : decode cX10_town 7 = .ok (.istore_n 1, 1) := by decide +kernel
theorem dX10_town_8 : decode cX10_town 8 = .ok (.iload_n 1, 1) := by decide +kernel
theorem dX10_town_9 : decode cX10_town 9 = .ok (.bipush 10, 2) := by decide +kernel
theorem dX10_town_11 : decode cX10_town 11 = .ok (.if_icmp .ge 16, 3) := by decide +kernel
theorem dX10_town_14 : decode cX10_town 14 = .ok (.aload_n 0, 1) := by decide +kernel
theorem dX10_town_15 : decode cX10_town 15 = .ok (.getfield 26, 3) := by decide +kernel
theorem dX10_town_18 : decode cX10_town 18 = .ok (.iload_n 1, 1) := by decide +kernel
theorem dX10_town_19 : decode cX10_town 19 = .ok (.iconst 0, 1) := by decide +kernel
theorem dX10_town_20 : decode cX10_town 20 = .ok (.iastore, 1) := by decide +kernel
theorem dX10_town_21 : decode cX10_town 21 = .ok (.iinc 1 1, 3) := by decide +kernel
theorem dX10_town_24 : decode cX10_town 24 = .ok (.goto (-16), 3) := by decide +kernel
theorem dX10_town_27 : decode cX10_town 27 = .ok (.aload_n 0, 1) := by decide +kernel
theorem dX10_town_28 : decode cX10_town 28 = .ok (.invokevirtual 276, 3) := by decide +kernel
theorem dX10_town_31 : decode cX10_town 31 = .ok (.ifCond .ne 11, 3) := by decide +kernel
theorem dX10_town_34 : decode cX10_town 34 = .ok (.bipush (-2), 2) := by decide +kernel
theorem dX10_town_36 : decode cX10_town 36 = .ok (.aload_n 0, 1) := by decide +kernel
theorem dX10_town_37 : decode cX10_town 37 = .ok (.getfield 87, 3) := by decide +kernel
theorem dX10_town_40 : decode cX10_town 40 = .ok (.isub, 1) := by decide +kernel
theorem dX10_town_41 : decode cX10_town 41 = .ok (.ireturn, 1) := by decide +kernel
theorem dX10_town_42 : decode cX10_town 42 = .ok (.iconst 0, 1) := by decide +kernel
theorem dX10_town_43 : decode cX10_town 43 = .ok (.istore_n 1, 1) := by decide +kernel
theorem dX10_town_44 : decode cX10_town 44 = .ok (.iload_n 1, 1) := by decide +kernel
theorem dX10_town_45 : decode cX10_town 45 = .ok (.sipush 160, 3) := by decide +kernel
theorem dX10_town_48 : decode cX10_town 48 = .ok (.if_icmp .ge 21, 3) := by decide +kernel
theorem dX10_town_51 : decode cX10_town 51 = .ok (.aload_n 0, 1) := by decide +kernel
theorem dX10_town_52 : decode cX10_town 52 = .ok (.getfield 39, 3) := by decide +kernel
theorem dX10_town_55 : decode cX10_town 55 = .ok (.iload_n 1, 1) := by decide +kernel
theorem dX10_town_56 : decode cX10_town 56 = .ok (.aload_n 0, 1) := by decide +kernel
theorem dX10_town_57 : decode cX10_town 57 = .ok (.getfield 26, 3) := by decide +kernel
theorem dX10_town_60 : decode cX10_town 60 = .ok (.iload_n 1, 1) := by decide +kernel
theorem dX10_town_61 : decode cX10_town 61 = .ok (.iaload, 1) := by decide +kernel
theorem dX10_town_62 : decode cX10_town 62 = .ok (.iastore, 1) := by decide +kernel
theorem dX10_town_63 : decode cX10_town 63 = .ok (.iinc 1 1, 3) := by decide +kernel
theorem dX10_town_66 : decode cX10_town 66 = .ok (.goto (-22), 3) := by decide +kernel
theorem dX10_town_69 : decode cX10_town 69 = .ok (.aload_n 0, 1) := by decide +kernel
theorem dX10_town_70 : decode cX10_town 70 = .ok (.iconst 0, 1) := by decide +kernel
theorem dX10_town_71 : decode cX10_town 71 = .ok (.putfield 279, 3) := by decide +kernel
theorem dX10_town_74 : decode cX10_town 74 = .ok (.aload_n 0, 1) := by decide +kernel
theorem dX10_town_75 : decode cX10_town 75 = .ok (.getfield 39, 3) := by decide +kernel
theorem dX10_town_78 : decode cX10_town 78 = .ok (.iconst 2, 1) := by decide +kernel
theorem dX10_town_79 : decode cX10_town 79 = .ok (.iaload, 1) := by decide +kernel
theorem dX10_town_80 : decode cX10_town 80 = .ok (.ireturn, 1) := by decide +kernel
theorem dX10_isRule_0 : decode cX10_isRule 0 = .ok (.iload_n 1, 1) := by decide +kernel
theorem dX10_isRule_1 : decode cX10_isRule 1 = .ok (.ifCond .lt 15, 3) := by decide +kernel
theorem dX10_isRule_4 : decode cX10_isRule 4 = .ok (.iload_n 1, 1) := by decide +kernel
theorem dX10_isRule_5 : decode cX10_isRule 5 = .ok (.aload_n 0, 1) := by decide +kernel
theorem dX10_isRule_6 : decode cX10_isRule 6 = .ok (.getfield 273, 3) := by decide +kernel
theorem dX10_isRule_9 : decode cX10_isRule 9 = .ok (.if_icmp .ge 7, 3) := by decide +kernel
theorem dX10_isRule_12 : decode cX10_isRule 12 = .ok (.iconst 1, 1) := by decide +kernel
theorem dX10_isRule_13 : decode cX10_isRule 13 = .ok (.goto 4, 3) := by decide +kernel
theorem dX10_isRule_16 : decode cX10_isRule 16 = .ok (.iconst 0, 1) := by decide +kernel
theorem dX10_isRule_17 : decode cX10_isRule 17 = .ok (.ireturn, 1) := by decide +kernel
theorem dX10_push_0 : decode cX10_push 0 = .ok (.aload_n 0, 1) := by decide +kernel
theorem dX10_push_1 : decode cX10_push 1 = .ok (.getfield 32, 3) := by decide +kernel
theorem dX10_push_4 : decode cX10_push 4 = .ok (.aload_n 0, 1) := by decide +kernel
theorem dX10_push_5 : decode cX10_push 5 = .ok (.getfield 282, 3) := by decide +kernel
theorem dX10_push_8 : decode cX10_push 8 = .ok (.lload_n 1, 1) := by decide +kernel
theorem dX10_push_9 : decode cX10_push 9 = .ok (.lastore, 1) := by decide +kernel
theorem dX10_push_10 : decode cX10_push 10 = .ok (.aload_n 0, 1) := by decide +kernel
theorem dX10_push_11 : decode cX10_push 11 = .ok (.dup, 1) := by decide +kernel
theorem dX10_push_12 : decode cX10_push 12 = .ok (.getfield 282, 3) := by decide +kernel
theorem dX10_push_15 : decode cX10_push 15 = .ok (.iconst 1, 1) := by decide +kernel
theorem dX10_push_16 : decode cX10_push 16 = .ok (.iadd, 1) := by decide +kernel
theorem dX10_push_17 : decode cX10_push 17 = .ok (.putfield 282, 3) := by decide +kernel
theorem dX10_push_20 : decode cX10_push 20 = .ok (.return_, 1) := by decide +kernel
theorem dX10_pop_0 : decode cX10_pop 0 = .ok (.aload_n 0, 1) := by decide +kernel
theorem dX10_pop_1 : decode cX10_pop 1 = .ok (.dup, 1) := by decide +kernel
theorem dX10_pop_2 : decode cX10_pop 2 = .ok (.getfield 282, 3) := by decide +kernel
theorem dX10_pop_5 : decode cX10_pop 5 = .ok (.iconst 1, 1) := by decide +kernel
theorem dX10_pop_6 : decode cX10_pop 6 = .ok (.isub, 1) := by decide +kernel
theorem dX10_pop_7 : decode cX10_pop 7 = .ok (.putfield 282, 3) := by decide +kernel
theorem dX10_pop_10 : decode cX10_pop 10 = .ok (.aload_n 0, 1) := by decide +kernel
theorem dX10_pop_11 : decode cX10_pop 11 = .ok (.getfield 32, 3) := by decide +kernel
theorem dX10_pop_14 : decode cX10_pop 14 = .ok (.aload_n 0, 1) := by decide +kernel
theorem dX10_pop_15 : decode cX10_pop 15 = .ok (.getfield 282, 3) := by decide +kernel
theorem dX10_pop_18 : decode cX10_pop 18 = .ok (.laload, 1) := by decide +kernel
theorem dX10_pop_19 : decode cX10_pop 19 = .ok (.lreturn, 1) := by decide +kernel
theorem dX10_one_0 : decode cX10_one 0 = .ok (.iload_n 0, 1) := by decide +kernel
theorem dX10_one_1 : decode cX10_one 1 = .ok (.tableswitch 171 2 14 #[67, 71, 75, 79, 107, 119, 131, 143, 155, 171, 167, 171, 93], 67) := by decide +kernel
theorem dX10_one_68 : decode cX10_one 68 = .ok (.lload_n 1, 1) := by decide +kernel
theorem dX10_one_69 : decode cX10_one 69 = .ok (.lload_n 3, 1) := by decide +kernel
theorem dX10_one_70 : decode cX10_one 70 = .ok (.ladd, 1) := by decide +kernel
theorem dX10_one_71 : decode cX10_one 71 = .ok (.lreturn, 1) := by decide +kernel
theorem dX10_one_72 : decode cX10_one 72 = .ok (.lload_n 1, 1) := by decide +kernel
theorem dX10_one_73 : decode cX10_one 73 = .ok (.lload_n 3, 1) := by decide +kernel
theorem dX10_one_74 : decode cX10_one 74 = .ok (.lsub, 1) := by decide +kernel
theorem dX10_one_75 : decode cX10_one 75 = .ok (.lreturn, 1) := by decide +kernel
theorem dX10_one_76 : decode cX10_one 76 = .ok (.lload_n 1, 1) := by decide +kernel
theorem dX10_one_77 : decode cX10_one 77 = .ok (.lload_n 3, 1) := by decide +kernel
theorem dX10_one_78 : decode cX10_one 78 = .ok (.lmul, 1) := by decide +kernel
theorem dX10_one_79 : decode cX10_one 79 = .ok (.lreturn, 1) := by decide +kernel
theorem dX10_one_80 : decode cX10_one 80 = .ok (.lload_n 3, 1) := by decide +kernel
theorem dX10_one_81 : decode cX10_one 81 = .ok (.lconst 0, 1) := by decide +kernel
theorem dX10_one_82 : decode cX10_one 82 = .ok (.lcmp, 1) := by decide +kernel
theorem dX10_one_83 : decode cX10_one 83 = .ok (.ifCond .ne 7, 3) := by decide +kernel
theorem dX10_one_86 : decode cX10_one 86 = .ok (.lconst 0, 1) := by decide +kernel
theorem dX10_one_87 : decode cX10_one 87 = .ok (.goto 6, 3) := by decide +kernel
theorem dX10_one_90 : decode cX10_one 90 = .ok (.lload_n 1, 1) := by decide +kernel
theorem dX10_one_91 : decode cX10_one 91 = .ok (.lload_n 3, 1) := by decide +kernel
theorem dX10_one_92 : decode cX10_one 92 = .ok (.ldiv, 1) := by decide +kernel
theorem dX10_one_93 : decode cX10_one 93 = .ok (.lreturn, 1) := by decide +kernel
theorem dX10_one_94 : decode cX10_one 94 = .ok (.lload_n 3, 1) := by decide +kernel
theorem dX10_one_95 : decode cX10_one 95 = .ok (.lconst 0, 1) := by decide +kernel
theorem dX10_one_96 : decode cX10_one 96 = .ok (.lcmp, 1) := by decide +kernel
theorem dX10_one_97 : decode cX10_one 97 = .ok (.ifCond .ne 7, 3) := by decide +kernel
theorem dX10_one_100 : decode cX10_one 100 = .ok (.lconst 0, 1) := by decide +kernel
theorem dX10_one_101 : decode cX10_one 101 = .ok (.goto 6, 3) := by decide +kernel
theorem dX10_one_104 : decode cX10_one 104 = .ok (.lload_n 1, 1) := by decide +kernel
theorem dX10_one_105 : decode cX10_one 105 = .ok (.lload_n 3, 1) := by decide +kernel
theorem dX10_one_106 : decode cX10_one 106 = .ok (.lrem, 1) := by decide +kernel
theorem dX10_one_107 : decode cX10_one 107 = .ok (.lreturn, 1) := by decide +kernel
theorem dX10_one_108 : decode cX10_one 108 = .ok (.lload_n 1, 1) := by decide +kernel
theorem dX10_one_109 : decode cX10_one 109 = .ok (.lload_n 3, 1) := by decide +kernel
theorem dX10_one_110 : decode cX10_one 110 = .ok (.lcmp, 1) := by decide +kernel
theorem dX10_one_111 : decode cX10_one 111 = .ok (.ifCond .ge 7, 3) := by decide +kernel
theorem dX10_one_114 : decode cX10_one 114 = .ok (.lconst 1, 1) := by decide +kernel
theorem dX10_one_115 : decode cX10_one 115 = .ok (.goto 4, 3) := by decide +kernel
theorem dX10_one_118 : decode cX10_one 118 = .ok (.lconst 0, 1) := by decide +kernel
theorem dX10_one_119 : decode cX10_one 119 = .ok (.lreturn, 1) := by decide +kernel
theorem dX10_one_120 : decode cX10_one 120 = .ok (.lload_n 1, 1) := by decide +kernel
theorem dX10_one_121 : decode cX10_one 121 = .ok (.lload_n 3, 1) := by decide +kernel
theorem dX10_one_122 : decode cX10_one 122 = .ok (.lcmp, 1) := by decide +kernel
theorem dX10_one_123 : decode cX10_one 123 = .ok (.ifCond .gt 7, 3) := by decide +kernel
theorem dX10_one_126 : decode cX10_one 126 = .ok (.lconst 1, 1) := by decide +kernel
theorem dX10_one_127 : decode cX10_one 127 = .ok (.goto 4, 3) := by decide +kernel
theorem dX10_one_130 : decode cX10_one 130 = .ok (.lconst 0, 1) := by decide +kernel
theorem dX10_one_131 : decode cX10_one 131 = .ok (.lreturn, 1) := by decide +kernel
theorem dX10_one_132 : decode cX10_one 132 = .ok (.lload_n 1, 1) := by decide +kernel
theorem dX10_one_133 : decode cX10_one 133 = .ok (.lload_n 3, 1) := by decide +kernel
theorem dX10_one_134 : decode cX10_one 134 = .ok (.lcmp, 1) := by decide +kernel
theorem dX10_one_135 : decode cX10_one 135 = .ok (.ifCond .ne 7, 3) := by decide +kernel
theorem dX10_one_138 : decode cX10_one 138 = .ok (.lconst 1, 1) := by decide +kernel
theorem dX10_one_139 : decode cX10_one 139 = .ok (.goto 4, 3) := by decide +kernel
theorem dX10_one_142 : decode cX10_one 142 = .ok (.lconst 0, 1) := by decide +kernel
theorem dX10_one_143 : decode cX10_one 143 = .ok (.lreturn, 1) := by decide +kernel
theorem dX10_one_144 : decode cX10_one 144 = .ok (.lload_n 1, 1) := by decide +kernel
theorem dX10_one_145 : decode cX10_one 145 = .ok (.lload_n 3, 1) := by decide +kernel
theorem dX10_one_146 : decode cX10_one 146 = .ok (.lcmp, 1) := by decide +kernel
theorem dX10_one_147 : decode cX10_one 147 = .ok (.ifCond .lt 7, 3) := by decide +kernel
theorem dX10_one_150 : decode cX10_one 150 = .ok (.lconst 1, 1) := by decide +kernel
theorem dX10_one_151 : decode cX10_one 151 = .ok (.goto 4, 3) := by decide +kernel
theorem dX10_one_154 : decode cX10_one 154 = .ok (.lconst 0, 1) := by decide +kernel
theorem dX10_one_155 : decode cX10_one 155 = .ok (.lreturn, 1) := by decide +kernel
theorem dX10_one_156 : decode cX10_one 156 = .ok (.lload_n 1, 1) := by decide +kernel
theorem dX10_one_157 : decode cX10_one 157 = .ok (.lload_n 3, 1) := by decide +kernel
theorem dX10_one_158 : decode cX10_one 158 = .ok (.lcmp, 1) := by decide +kernel
theorem dX10_one_159 : decode cX10_one 159 = .ok (.ifCond .le 7, 3) := by decide +kernel
theorem dX10_one_162 : decode cX10_one 162 = .ok (.lconst 1, 1) := by decide +kernel
theorem dX10_one_163 : decode cX10_one 163 = .ok (.goto 4, 3) := by decide +kernel
theorem dX10_one_166 : decode cX10_one 166 = .ok (.lconst 0, 1) := by decide +kernel
theorem dX10_one_167 : decode cX10_one 167 = .ok (.lreturn, 1) := by decide +kernel
theorem dX10_one_168 : decode cX10_one 168 = .ok (.lload_n 1, 1) := by decide +kernel
theorem dX10_one_169 : decode cX10_one 169 = .ok (.lload_n 3, 1) := by decide +kernel
theorem dX10_one_170 : decode cX10_one 170 = .ok (.land, 1) := by decide +kernel
theorem dX10_one_171 : decode cX10_one 171 = .ok (.lreturn, 1) := by decide +kernel
theorem dX10_one_172 : decode cX10_one 172 = .ok (.lload_n 1, 1) := by decide +kernel
theorem dX10_one_173 : decode cX10_one 173 = .ok (.lload_n 3, 1) := by decide +kernel
theorem dX10_one_174 : decode cX10_one 174 = .ok (.lor, 1) := by decide +kernel
theorem dX10_one_175 : decode cX10_one 175 = .ok (.lreturn, 1) := by decide +kernel
theorem dX10_reckons_0 : decode cX10_reckons 0 = .ok (.aload_n 0, 1) := by decide +kernel
theorem dX10_reckons_1 : decode cX10_reckons 1 = .ok (.iconst 0, 1) := by decide +kernel
theorem dX10_reckons_2 : decode cX10_reckons 2 = .ok (.putfield 282, 3) := by decide +kernel
theorem dX10_reckons_5 : decode cX10_reckons 5 = .ok (.iload_n 2, 1) := by decide +kernel
theorem dX10_reckons_6 : decode cX10_reckons 6 = .ok (.istore 4, 2) := by decide +kernel
theorem dX10_reckons_8 : decode cX10_reckons 8 = .ok (.iload 4, 2) := by decide +kernel
theorem dX10_reckons_10 : decode cX10_reckons 10 = .ok (.iload_n 3, 1) := by decide +kernel
theorem dX10_reckons_11 : decode cX10_reckons 11 = .ok (.if_icmp .ge 124, 3) := by decide +kernel
theorem dX10_reckons_14 : decode cX10_reckons 14 = .ok (.aload_n 0, 1) := by decide +kernel
theorem dX10_reckons_15 : decode cX10_reckons 15 = .ok (.getfield 13, 3) := by decide +kernel
theorem dX10_reckons_18 : decode cX10_reckons 18 = .ok (.sipush 400, 3) := by decide +kernel
theorem dX10_reckons_21 : decode cX10_reckons 21 = .ok (.iload_n 1, 1) := by decide +kernel
theorem dX10_reckons_22 : decode cX10_reckons 22 = .ok (.imul, 1) := by decide +kernel
theorem dX10_reckons_23 : decode cX10_reckons 23 = .ok (.iload 4, 2) := by decide +kernel
theorem dX10_reckons_25 : decode cX10_reckons 25 = .ok (.iadd, 1) := by decide +kernel
theorem dX10_reckons_26 : decode cX10_reckons 26 = .ok (.iaload, 1) := by decide +kernel
theorem dX10_reckons_27 : decode cX10_reckons 27 = .ok (.bipush 15, 2) := by decide +kernel
theorem dX10_reckons_29 : decode cX10_reckons 29 = .ok (.iand, 1) := by decide +kernel
theorem dX10_reckons_30 : decode cX10_reckons 30 = .ok (.istore 5, 2) := by decide +kernel
theorem dX10_reckons_32 : decode cX10_reckons 32 = .ok (.aload_n 0, 1) := by decide +kernel
theorem dX10_reckons_33 : decode cX10_reckons 33 = .ok (.getfield 13, 3) := by decide +kernel
theorem dX10_reckons_36 : decode cX10_reckons 36 = .ok (.sipush 400, 3) := by decide +kernel
theorem dX10_reckons_39 : decode cX10_reckons 39 = .ok (.iload_n 1, 1) := by decide +kernel
theorem dX10_reckons_40 : decode cX10_reckons 40 = .ok (.imul, 1) := by decide +kernel
theorem dX10_reckons_41 : decode cX10_reckons 41 = .ok (.iload 4, 2) := by decide +kernel
theorem dX10_reckons_43 : decode cX10_reckons 43 = .ok (.iadd, 1) := by decide +kernel
theorem dX10_reckons_44 : decode cX10_reckons 44 = .ok (.iaload, 1) := by decide +kernel
theorem dX10_reckons_45 : decode cX10_reckons 45 = .ok (.iconst 4, 1) := by decide +kernel
theorem dX10_reckons_46 : decode cX10_reckons 46 = .ok (.ishr, 1) := by decide +kernel
theorem dX10_reckons_47 : decode cX10_reckons 47 = .ok (.istore 6, 2) := by decide +kernel
theorem dX10_reckons_49 : decode cX10_reckons 49 = .ok (.iload 5, 2) := by decide +kernel
theorem dX10_reckons_51 : decode cX10_reckons 51 = .ok (.ifCond .ne 13, 3) := by decide +kernel
theorem dX10_reckons_54 : decode cX10_reckons 54 = .ok (.aload_n 0, 1) := by decide +kernel
theorem dX10_reckons_55 : decode cX10_reckons 55 = .ok (.iload 6, 2) := by decide +kernel
theorem dX10_reckons_57 : decode cX10_reckons 57 = .ok (.i2l, 1) := by decide +kernel
theorem dX10_reckons_58 : decode cX10_reckons 58 = .ok (.invokevirtual 285, 3) := by decide +kernel
theorem dX10_reckons_61 : decode cX10_reckons 61 = .ok (.goto 68, 3) := by decide +kernel
theorem dX10_reckons_64 : decode cX10_reckons 64 = .ok (.iload 5, 2) := by decide +kernel
theorem dX10_reckons_66 : decode cX10_reckons 66 = .ok (.iconst 1, 1) := by decide +kernel
theorem dX10_reckons_67 : decode cX10_reckons 67 = .ok (.if_icmp .ne 17, 3) := by decide +kernel
theorem dX10_reckons_70 : decode cX10_reckons 70 = .ok (.aload_n 0, 1) := by decide +kernel
theorem dX10_reckons_71 : decode cX10_reckons 71 = .ok (.aload_n 0, 1) := by decide +kernel
theorem dX10_reckons_72 : decode cX10_reckons 72 = .ok (.getfield 36, 3) := by decide +kernel
theorem dX10_reckons_75 : decode cX10_reckons 75 = .ok (.iload 6, 2) := by decide +kernel
theorem dX10_reckons_77 : decode cX10_reckons 77 = .ok (.laload, 1) := by decide +kernel
theorem dX10_reckons_78 : decode cX10_reckons 78 = .ok (.invokevirtual 285, 3) := by decide +kernel
theorem dX10_reckons_81 : decode cX10_reckons 81 = .ok (.goto 48, 3) := by decide +kernel
theorem dX10_reckons_84 : decode cX10_reckons 84 = .ok (.iload 5, 2) := by decide +kernel
theorem dX10_reckons_86 : decode cX10_reckons 86 = .ok (.bipush 11, 2) := by decide +kernel
theorem dX10_reckons_88 : decode cX10_reckons 88 = .ok (.if_icmp .ne 16, 3) := by decide +kernel
theorem dX10_reckons_91 : decode cX10_reckons 91 = .ok (.aload_n 0, 1) := by decide +kernel
theorem dX10_reckons_92 : decode cX10_reckons 92 = .ok (.lconst 1, 1) := by decide +kernel
theorem dX10_reckons_93 : decode cX10_reckons 93 = .ok (.aload_n 0, 1) := by decide +kernel
theorem dX10_reckons_94 : decode cX10_reckons 94 = .ok (.invokevirtual 289, 3) := by decide +kernel
theorem dX10_reckons_97 : decode cX10_reckons 97 = .ok (.lsub, 1) := by decide +kernel
theorem dX10_reckons_98 : decode cX10_reckons 98 = .ok (.invokevirtual 285, 3) := by decide +kernel
theorem dX10_reckons_101 : decode cX10_reckons 101 = .ok (.goto 28, 3) := by decide +kernel
theorem dX10_reckons_104 : decode cX10_reckons 104 = .ok (.aload_n 0, 1) := by decide +kernel
theorem dX10_reckons_105 : decode cX10_reckons 105 = .ok (.invokevirtual 289, 3) := by decide +kernel
theorem dX10_reckons_108 : decode cX10_reckons 108 = .ok (.lstore 7, 2) := by decide +kernel
theorem dX10_reckons_110 : decode cX10_reckons 110 = .ok (.aload_n 0, 1) := by decide +kernel
theorem dX10_reckons_111 : decode cX10_reckons 111 = .ok (.invokevirtual 289, 3) := by decide +kernel
theorem dX10_reckons_114 : decode cX10_reckons 114 = .ok (.lstore 9, 2) := by decide +kernel
theorem dX10_reckons_116 : decode cX10_reckons 116 = .ok (.aload_n 0, 1) := by decide +kernel
theorem dX10_reckons_117 : decode cX10_reckons 117 = .ok (.iload 5, 2) := by decide +kernel
theorem dX10_reckons_119 : decode cX10_reckons 119 = .ok (.lload 9, 2) := by decide +kernel
theorem dX10_reckons_121 : decode cX10_reckons 121 = .ok (.lload 7, 2) := by decide +kernel
theorem dX10_reckons_123 : decode cX10_reckons 123 = .ok (.invokestatic 293, 3) := by decide +kernel
theorem dX10_reckons_126 : decode cX10_reckons 126 = .ok (.invokevirtual 285, 3) := by decide +kernel
theorem dX10_reckons_129 : decode cX10_reckons 129 = .ok (.iinc 4 1, 3) := by decide +kernel
theorem dX10_reckons_132 : decode cX10_reckons 132 = .ok (.goto (-124), 3) := by decide +kernel
theorem dX10_reckons_135 : decode cX10_reckons 135 = .ok (.aload_n 0, 1) := by decide +kernel
theorem dX10_reckons_136 : decode cX10_reckons 136 = .ok (.invokevirtual 289, 3) := by decide +kernel
theorem dX10_reckons_139 : decode cX10_reckons 139 = .ok (.lreturn, 1) := by decide +kernel
theorem dX10_isTown_0 : decode cX10_isTown 0 = .ok (.aload_n 0, 1) := by decide +kernel
theorem dX10_isTown_1 : decode cX10_isTown 1 = .ok (.getfield 39, 3) := by decide +kernel
theorem dX10_isTown_4 : decode cX10_isTown 4 = .ok (.iconst 0, 1) := by decide +kernel
theorem dX10_isTown_5 : decode cX10_isTown 5 = .ok (.iaload, 1) := by decide +kernel
theorem dX10_isTown_6 : decode cX10_isTown 6 = .ok (.ifCond .le 7, 3) := by decide +kernel
theorem dX10_isTown_9 : decode cX10_isTown 9 = .ok (.iconst 1, 1) := by decide +kernel
theorem dX10_isTown_10 : decode cX10_isTown 10 = .ok (.goto 4, 3) := by decide +kernel
theorem dX10_isTown_13 : decode cX10_isTown 13 = .ok (.iconst 0, 1) := by decide +kernel
theorem dX10_isTown_14 : decode cX10_isTown 14 = .ok (.ireturn, 1) := by decide +kernel
theorem dX10_isQuarter_0 : decode cX10_isQuarter 0 = .ok (.iload_n 1, 1) := by decide +kernel
theorem dX10_isQuarter_1 : decode cX10_isQuarter 1 = .ok (.ifCond .lt 17, 3) := by decide +kernel
theorem dX10_isQuarter_4 : decode cX10_isQuarter 4 = .ok (.iload_n 1, 1) := by decide +kernel
theorem dX10_isQuarter_5 : decode cX10_isQuarter 5 = .ok (.aload_n 0, 1) := by decide +kernel
theorem dX10_isQuarter_6 : decode cX10_isQuarter 6 = .ok (.getfield 39, 3) := by decide +kernel
theorem dX10_isQuarter_9 : decode cX10_isQuarter 9 = .ok (.iconst 0, 1) := by decide +kernel
theorem dX10_isQuarter_10 : decode cX10_isQuarter 10 = .ok (.iaload, 1) := by decide +kernel
theorem dX10_isQuarter_11 : decode cX10_isQuarter 11 = .ok (.if_icmp .ge 7, 3) := by decide +kernel
theorem dX10_isQuarter_14 : decode cX10_isQuarter 14 = .ok (.iconst 1, 1) := by decide +kernel
theorem dX10_isQuarter_15 : decode cX10_isQuarter 15 = .ok (.goto 4, 3) := by decide +kernel
theorem dX10_isQuarter_18 : decode cX10_isQuarter 18 = .ok (.iconst 0, 1) := by decide +kernel
theorem dX10_isQuarter_19 : decode cX10_isQuarter 19 = .ok (.ireturn, 1) := by decide +kernel
theorem dX10_isBridge_0 : decode cX10_isBridge 0 = .ok (.iload_n 1, 1) := by decide +kernel
theorem dX10_isBridge_1 : decode cX10_isBridge 1 = .ok (.ifCond .lt 17, 3) := by decide +kernel
theorem dX10_isBridge_4 : decode cX10_isBridge 4 = .ok (.iload_n 1, 1) := by decide +kernel
theorem dX10_isBridge_5 : decode cX10_isBridge 5 = .ok (.aload_n 0, 1) := by decide +kernel
theorem dX10_isBridge_6 : decode cX10_isBridge 6 = .ok (.getfield 39, 3) := by decide +kernel
theorem dX10_isBridge_9 : decode cX10_isBridge 9 = .ok (.iconst 2, 1) := by decide +kernel
theorem dX10_isBridge_10 : decode cX10_isBridge 10 = .ok (.iaload, 1) := by decide +kernel
theorem dX10_isBridge_11 : decode cX10_isBridge 11 = .ok (.if_icmp .ge 7, 3) := by decide +kernel
theorem dX10_isBridge_14 : decode cX10_isBridge 14 = .ok (.iconst 1, 1) := by decide +kernel
theorem dX10_isBridge_15 : decode cX10_isBridge 15 = .ok (.goto 4, 3) := by decide +kernel
theorem dX10_isBridge_18 : decode cX10_isBridge 18 = .ok (.iconst 0, 1) := by decide +kernel
theorem dX10_isBridge_19 : decode cX10_isBridge 19 = .ok (.ireturn, 1) := by decide +kernel
theorem dX10_isPerson_0 : decode cX10_isPerson 0 = .ok (.iload_n 1, 1) := by decide +kernel
theorem dX10_isPerson_1 : decode cX10_isPerson 1 = .ok (.ifCond .lt 17, 3) := by decide +kernel
theorem dX10_isPerson_4 : decode cX10_isPerson 4 = .ok (.iload_n 1, 1) := by decide +kernel
theorem dX10_isPerson_5 : decode cX10_isPerson 5 = .ok (.aload_n 0, 1) := by decide +kernel
theorem dX10_isPerson_6 : decode cX10_isPerson 6 = .ok (.getfield 39, 3) := by decide +kernel
theorem dX10_isPerson_9 : decode cX10_isPerson 9 = .ok (.iconst 4, 1) := by decide +kernel
theorem dX10_isPerson_10 : decode cX10_isPerson 10 = .ok (.iaload, 1) := by decide +kernel
theorem dX10_isPerson_11 : decode cX10_isPerson 11 = .ok (.if_icmp .ge 7, 3) := by decide +kernel
theorem dX10_isPerson_14 : decode cX10_isPerson 14 = .ok (.iconst 1, 1) := by decide +kernel
theorem dX10_isPerson_15 : decode cX10_isPerson 15 = .ok (.goto 4, 3) := by decide +kernel
theorem dX10_isPerson_18 : decode cX10_isPerson 18 = .ok (.iconst 0, 1) := by decide +kernel
theorem dX10_isPerson_19 : decode cX10_isPerson 19 = .ok (.ireturn, 1) := by decide +kernel
theorem dX10_personOf_0 : decode cX10_personOf 0 = .ok (.aload_n 0, 1) := by decide +kernel
theorem dX10_personOf_1 : decode cX10_personOf 1 = .ok (.getfield 39, 3) := by decide +kernel
theorem dX10_personOf_4 : decode cX10_personOf 4 = .ok (.bipush 10, 2) := by decide +kernel
theorem dX10_personOf_6 : decode cX10_personOf 6 = .ok (.iconst 3, 1) := by decide +kernel
theorem dX10_personOf_7 : decode cX10_personOf 7 = .ok (.iload_n 1, 1) := by decide +kernel
theorem dX10_personOf_8 : decode cX10_personOf 8 = .ok (.imul, 1) := by decide +kernel
theorem dX10_personOf_9 : decode cX10_personOf 9 = .ok (.iadd, 1) := by decide +kernel
theorem dX10_personOf_10 : decode cX10_personOf 10 = .ok (.iload_n 2, 1) := by decide +kernel
theorem dX10_personOf_11 : decode cX10_personOf 11 = .ok (.iadd, 1) := by decide +kernel
theorem dX10_personOf_12 : decode cX10_personOf 12 = .ok (.iaload, 1) := by decide +kernel
theorem dX10_personOf_13 : decode cX10_personOf 13 = .ok (.ireturn, 1) := by decide +kernel
theorem dX10_crossedBy_0 : decode cX10_crossedBy 0 = .ok (.aload_n 0, 1) := by decide +kernel
theorem dX10_crossedBy_1 : decode cX10_crossedBy 1 = .ok (.getfield 39, 3) := by decide +kernel
theorem dX10_crossedBy_4 : decode cX10_crossedBy 4 = .ok (.bipush 22, 2) := by decide +kernel
theorem dX10_crossedBy_6 : decode cX10_crossedBy 6 = .ok (.bipush 9, 2) := by decide +kernel
theorem dX10_crossedBy_8 : decode cX10_crossedBy 8 = .ok (.iload_n 1, 1) := by decide +kernel
theorem dX10_crossedBy_9 : decode cX10_crossedBy 9 = .ok (.imul, 1) := by decide +kernel
theorem dX10_crossedBy_10 : decode cX10_crossedBy 10 = .ok (.iadd, 1) := by decide +kernel
theorem dX10_crossedBy_11 : decode cX10_crossedBy 11 = .ok (.iload_n 2, 1) := by decide +kernel
theorem dX10_crossedBy_12 : decode cX10_crossedBy 12 = .ok (.iadd, 1) := by decide +kernel
theorem dX10_crossedBy_13 : decode cX10_crossedBy 13 = .ok (.iaload, 1) := by decide +kernel
theorem dX10_crossedBy_14 : decode cX10_crossedBy 14 = .ok (.ireturn, 1) := by decide +kernel
theorem dX10_leftOf_0 : decode cX10_leftOf 0 = .ok (.aload_n 0, 1) := by decide +kernel
theorem dX10_leftOf_1 : decode cX10_leftOf 1 = .ok (.getfield 39, 3) := by decide +kernel
theorem dX10_leftOf_4 : decode cX10_leftOf 4 = .ok (.iconst 1, 1) := by decide +kernel
theorem dX10_leftOf_5 : decode cX10_leftOf 5 = .ok (.iaload, 1) := by decide +kernel
theorem dX10_leftOf_6 : decode cX10_leftOf 6 = .ok (.aload_n 0, 1) := by decide +kernel
theorem dX10_leftOf_7 : decode cX10_leftOf 7 = .ok (.iload_n 1, 1) := by decide +kernel
theorem dX10_leftOf_8 : decode cX10_leftOf 8 = .ok (.iload_n 2, 1) := by decide +kernel
theorem dX10_leftOf_9 : decode cX10_leftOf 9 = .ok (.invokevirtual 297, 3) := by decide +kernel
theorem dX10_leftOf_12 : decode cX10_leftOf 12 = .ok (.isub, 1) := by decide +kernel
theorem dX10_leftOf_13 : decode cX10_leftOf 13 = .ok (.aload_n 0, 1) := by decide +kernel
theorem dX10_leftOf_14 : decode cX10_leftOf 14 = .ok (.getfield 42, 3) := by decide +kernel
theorem dX10_leftOf_17 : decode cX10_leftOf 17 = .ok (.iload_n 2, 1) := by decide +kernel
theorem dX10_leftOf_18 : decode cX10_leftOf 18 = .ok (.iaload, 1) := by decide +kernel
theorem dX10_leftOf_19 : decode cX10_leftOf 19 = .ok (.iadd, 1) := by decide +kernel
theorem dX10_leftOf_20 : decode cX10_leftOf 20 = .ok (.ireturn, 1) := by decide +kernel
theorem dX10_otherEnd_0 : decode cX10_otherEnd 0 = .ok (.aload_n 0, 1) := by decide +kernel
theorem dX10_otherEnd_1 : decode cX10_otherEnd 1 = .ok (.getfield 39, 3) := by decide +kernel
theorem dX10_otherEnd_4 : decode cX10_otherEnd 4 = .ok (.iload_n 1, 1) := by decide +kernel
theorem dX10_otherEnd_5 : decode cX10_otherEnd 5 = .ok (.iaload, 1) := by decide +kernel
theorem dX10_otherEnd_6 : decode cX10_otherEnd 6 = .ok (.iload_n 2, 1) := by decide +kernel
theorem dX10_otherEnd_7 : decode cX10_otherEnd 7 = .ok (.if_icmp .ne 14, 3) := by decide +kernel
theorem dX10_otherEnd_10 : decode cX10_otherEnd 10 = .ok (.aload_n 0, 1) := by decide +kernel
theorem dX10_otherEnd_11 : decode cX10_otherEnd 11 = .ok (.getfield 39, 3) := by decide +kernel
theorem dX10_otherEnd_14 : decode cX10_otherEnd 14 = .ok (.iload_n 1, 1) := by decide +kernel
theorem dX10_otherEnd_15 : decode cX10_otherEnd 15 = .ok (.iconst 1, 1) := by decide +kernel
theorem dX10_otherEnd_16 : decode cX10_otherEnd 16 = .ok (.iadd, 1) := by decide +kernel
theorem dX10_otherEnd_17 : decode cX10_otherEnd 17 = .ok (.iaload, 1) := by decide +kernel
theorem dX10_otherEnd_18 : decode cX10_otherEnd 18 = .ok (.goto 25, 3) := by decide +kernel
theorem dX10_otherEnd_21 : decode cX10_otherEnd 21 = .ok (.aload_n 0, 1) := by decide +kernel
theorem dX10_otherEnd_22 : decode cX10_otherEnd 22 = .ok (.getfield 39, 3) := by decide +kernel
theorem dX10_otherEnd_25 : decode cX10_otherEnd 25 = .ok (.iload_n 1, 1) := by decide +kernel
theorem dX10_otherEnd_26 : decode cX10_otherEnd 26 = .ok (.iconst 1, 1) := by decide +kernel
theorem dX10_otherEnd_27 : decode cX10_otherEnd 27 = .ok (.iadd, 1) := by decide +kernel
theorem dX10_otherEnd_28 : decode cX10_otherEnd 28 = .ok (.iaload, 1) := by decide +kernel
theorem dX10_otherEnd_29 : decode cX10_otherEnd 29 = .ok (.iload_n 2, 1) := by decide +kernel
theorem dX10_otherEnd_30 : decode cX10_otherEnd 30 = .ok (.if_icmp .ne 12, 3) := by decide +kernel
theorem dX10_otherEnd_33 : decode cX10_otherEnd 33 = .ok (.aload_n 0, 1) := by decide +kernel
theorem dX10_otherEnd_34 : decode cX10_otherEnd 34 = .ok (.getfield 39, 3) := by decide +kernel
theorem dX10_otherEnd_37 : decode cX10_otherEnd 37 = .ok (.iload_n 1, 1) := by decide +kernel
theorem dX10_otherEnd_38 : decode cX10_otherEnd 38 = .ok (.iaload, 1) := by decide +kernel
theorem dX10_otherEnd_39 : decode cX10_otherEnd 39 = .ok (.goto 4, 3) := by decide +kernel
theorem dX10_otherEnd_42 : decode cX10_otherEnd 42 = .ok (.iconst (-1), 1) := by decide +kernel
theorem dX10_otherEnd_43 : decode cX10_otherEnd 43 = .ok (.ireturn, 1) := by decide +kernel
theorem dX10_over_0 : decode cX10_over 0 = .ok (.aload_n 0, 1) := by decide +kernel
theorem dX10_over_1 : decode cX10_over 1 = .ok (.bipush 94, 2) := by decide +kernel
theorem dX10_over_3 : decode cX10_over 3 = .ok (.iconst 2, 1) := by decide +kernel
theorem dX10_over_4 : decode cX10_over 4 = .ok (.iload_n 1, 1) := by decide +kernel
theorem dX10_over_5 : decode cX10_over 5 = .ok (.imul, 1) := by decide +kernel
theorem dX10_over_6 : decode cX10_over 6 = .ok (.iadd, 1) := by decide +kernel
theorem dX10_over_7 : decode cX10_over 7 = .ok (.iload_n 2, 1) := by decide +kernel
theorem dX10_over_8 : decode cX10_over 8 = .ok (.invokevirtual 301, 3) := by decide +kernel
theorem dX10_over_11 : decode cX10_over 11 = .ok (.ireturn, 1) := by decide +kernel
theorem dX10_isFrost_0 : decode cX10_isFrost 0 = .ok (.iconst 0, 1) := by decide +kernel
theorem dX10_isFrost_1 : decode cX10_isFrost 1 = .ok (.istore_n 1, 1) := by decide +kernel
theorem dX10_isFrost_2 : decode cX10_isFrost 2 = .ok (.iload_n 1, 1) := by decide +kernel
theorem dX10_isFrost_3 : decode cX10_isFrost 3 = .ok (.aload_n 0, 1) := by decide +kernel
theorem dX10_isFrost_4 : decode cX10_isFrost 4 = .ok (.getfield 39, 3) := by decide +kernel
theorem dX10_isFrost_7 : decode cX10_isFrost 7 = .ok (.bipush 7, 2) := by decide +kernel
theorem dX10_isFrost_9 : decode cX10_isFrost 9 = .ok (.iaload, 1) := by decide +kernel
theorem dX10_isFrost_10 : decode cX10_isFrost 10 = .ok (.if_icmp .ge 55, 3) := by decide +kernel
theorem dX10_isFrost_13 : decode cX10_isFrost 13 = .ok (.aload_n 0, 1) := by decide +kernel
theorem dX10_isFrost_14 : decode cX10_isFrost 14 = .ok (.getfield 39, 3) := by decide +kernel
theorem dX10_isFrost_17 : decode cX10_isFrost 17 = .ok (.bipush 6, 2) := by decide +kernel
theorem dX10_isFrost_19 : decode cX10_isFrost 19 = .ok (.iaload, 1) := by decide +kernel
theorem dX10_isFrost_20 : decode cX10_isFrost 20 = .ok (.aload_n 0, 1) := by decide +kernel
theorem dX10_isFrost_21 : decode cX10_isFrost 21 = .ok (.getfield 39, 3) := by decide +kernel
theorem dX10_isFrost_24 : decode cX10_isFrost 24 = .ok (.bipush 120, 2) := by decide +kernel
theorem dX10_isFrost_26 : decode cX10_isFrost 26 = .ok (.iconst 2, 1) := by decide +kernel
theorem dX10_isFrost_27 : decode cX10_isFrost 27 = .ok (.iload_n 1, 1) := by decide +kernel
theorem dX10_isFrost_28 : decode cX10_isFrost 28 = .ok (.imul, 1) := by decide +kernel
theorem dX10_isFrost_29 : decode cX10_isFrost 29 = .ok (.iadd, 1) := by decide +kernel
theorem dX10_isFrost_30 : decode cX10_isFrost 30 = .ok (.iaload, 1) := by decide +kernel
theorem dX10_isFrost_31 : decode cX10_isFrost 31 = .ok (.if_icmp .lt 28, 3) := by decide +kernel
theorem dX10_isFrost_34 : decode cX10_isFrost 34 = .ok (.aload_n 0, 1) := by decide +kernel
theorem dX10_isFrost_35 : decode cX10_isFrost 35 = .ok (.getfield 39, 3) := by decide +kernel
theorem dX10_isFrost_38 : decode cX10_isFrost 38 = .ok (.bipush 6, 2) := by decide +kernel
theorem dX10_isFrost_40 : decode cX10_isFrost 40 = .ok (.iaload, 1) := by decide +kernel
theorem dX10_isFrost_41 : decode cX10_isFrost 41 = .ok (.aload_n 0, 1) := by decide +kernel
theorem dX10_isFrost_42 : decode cX10_isFrost 42 = .ok (.getfield 39, 3) := by decide +kernel
theorem dX10_isFrost_45 : decode cX10_isFrost 45 = .ok (.bipush 120, 2) := by decide +kernel
theorem dX10_isFrost_47 : decode cX10_isFrost 47 = .ok (.iconst 2, 1) := by decide +kernel
theorem dX10_isFrost_48 : decode cX10_isFrost 48 = .ok (.iload_n 1, 1) := by decide +kernel
theorem dX10_isFrost_49 : decode cX10_isFrost 49 = .ok (.imul, 1) := by decide +kernel
theorem dX10_isFrost_50 : decode cX10_isFrost 50 = .ok (.iadd, 1) := by decide +kernel
theorem dX10_isFrost_51 : decode cX10_isFrost 51 = .ok (.iconst 1, 1) := by decide +kernel
theorem dX10_isFrost_52 : decode cX10_isFrost 52 = .ok (.iadd, 1) := by decide +kernel
theorem dX10_isFrost_53 : decode cX10_isFrost 53 = .ok (.iaload, 1) := by decide +kernel
theorem dX10_isFrost_54 : decode cX10_isFrost 54 = .ok (.if_icmp .gt 5, 3) := by decide +kernel
theorem dX10_isFrost_57 : decode cX10_isFrost 57 = .ok (.iconst 1, 1) := by decide +kernel
theorem dX10_isFrost_58 : decode cX10_isFrost 58 = .ok (.ireturn, 1) := by decide +kernel
theorem dX10_isFrost_59 : decode cX10_isFrost 59 = .ok (.iinc 1 1, 3) := by decide +kernel
theorem dX10_isFrost_62 : decode cX10_isFrost 62 = .ok (.goto (-60), 3) := by decide +kernel
theorem dX10_isFrost_65 : decode cX10_isFrost 65 = .ok (.iconst 0, 1) := by decide +kernel
theorem dX10_isFrost_66 : decode cX10_isFrost 66 = .ok (.ireturn, 1) := by decide +kernel
theorem dX10_fillsWays_0 : decode cX10_fillsWays 0 = .ok (.iconst 0, 1) := by decide +kernel
theorem dX10_fillsWays_1 : decode cX10_fillsWays 1 = .ok (.istore_n 3, 1) := by decide +kernel
theorem dX10_fillsWays_2 : decode cX10_fillsWays 2 = .ok (.iload_n 3, 1) := by decide +kernel
theorem dX10_fillsWays_3 : decode cX10_fillsWays 3 = .ok (.aload_n 0, 1) := by decide +kernel
theorem dX10_fillsWays_4 : decode cX10_fillsWays 4 = .ok (.getfield 39, 3) := by decide +kernel
theorem dX10_fillsWays_7 : decode cX10_fillsWays 7 = .ok (.iconst 0, 1) := by decide +kernel
theorem dX10_fillsWays_8 : decode cX10_fillsWays 8 = .ok (.iaload, 1) := by decide +kernel
theorem dX10_fillsWays_9 : decode cX10_fillsWays 9 = .ok (.if_icmp .ge 26, 3) := by decide +kernel
theorem dX10_fillsWays_12 : decode cX10_fillsWays 12 = .ok (.aload_n 0, 1) := by decide +kernel
theorem dX10_fillsWays_13 : decode cX10_fillsWays 13 = .ok (.getfield 45, 3) := by decide +kernel
theorem dX10_fillsWays_16 : decode cX10_fillsWays 16 = .ok (.iload_n 3, 1) := by decide +kernel
theorem dX10_fillsWays_17 : decode cX10_fillsWays 17 = .ok (.iload_n 3, 1) := by decide +kernel
theorem dX10_fillsWays_18 : decode cX10_fillsWays 18 = .ok (.iload_n 2, 1) := by decide +kernel
theorem dX10_fillsWays_19 : decode cX10_fillsWays 19 = .ok (.if_icmp .ne 7, 3) := by decide +kernel
theorem dX10_fillsWays_22 : decode cX10_fillsWays 22 = .ok (.iconst 0, 1) := by decide +kernel
theorem dX10_fillsWays_23 : decode cX10_fillsWays 23 = .ok (.goto 5, 3) := by decide +kernel
theorem dX10_fillsWays_26 : decode cX10_fillsWays 26 = .ok (.bipush 99, 2) := by decide +kernel
theorem dX10_fillsWays_28 : decode cX10_fillsWays 28 = .ok (.iastore, 1) := by decide +kernel
theorem dX10_fillsWays_29 : decode cX10_fillsWays 29 = .ok (.iinc 3 1, 3) := by decide +kernel
theorem dX10_fillsWays_32 : decode cX10_fillsWays 32 = .ok (.goto (-30), 3) := by decide +kernel
theorem dX10_fillsWays_35 : decode cX10_fillsWays 35 = .ok (.iconst 1, 1) := by decide +kernel
theorem dX10_fillsWays_36 : decode cX10_fillsWays 36 = .ok (.istore_n 3, 1) := by decide +kernel
theorem dX10_fillsWays_37 : decode cX10_fillsWays 37 = .ok (.iload_n 3, 1) := by decide +kernel
theorem dX10_fillsWays_38 : decode cX10_fillsWays 38 = .ok (.ifCond .eq 137, 3) := by decide +kernel
theorem dX10_fillsWays_41 : decode cX10_fillsWays 41 = .ok (.iconst 0, 1) := by decide +kernel
theorem dX10_fillsWays_42 : decode cX10_fillsWays 42 = .ok (.istore_n 3, 1) := by decide +kernel
theorem dX10_fillsWays_43 : decode cX10_fillsWays 43 = .ok (.iconst 0, 1) := by decide +kernel
theorem dX10_fillsWays_44 : decode cX10_fillsWays 44 = .ok (.istore 4, 2) := by decide +kernel
theorem dX10_fillsWays_46 : decode cX10_fillsWays 46 = .ok (.iload 4, 2) := by decide +kernel
theorem dX10_fillsWays_48 : decode cX10_fillsWays 48 = .ok (.aload_n 0, 1) := by decide +kernel
theorem dX10_fillsWays_49 : decode cX10_fillsWays 49 = .ok (.getfield 39, 3) := by decide +kernel
theorem dX10_fillsWays_52 : decode cX10_fillsWays 52 = .ok (.iconst 2, 1) := by decide +kernel
theorem dX10_fillsWays_53 : decode cX10_fillsWays 53 = .ok (.iaload, 1) := by decide +kernel
theorem dX10_fillsWays_54 : decode cX10_fillsWays 54 = .ok (.if_icmp .ge 118, 3) := by decide +kernel
theorem dX10_fillsWays_57 : decode cX10_fillsWays 57 = .ok (.iload_n 1, 1) := by decide +kernel
theorem dX10_fillsWays_58 : decode cX10_fillsWays 58 = .ok (.ifCond .lt 17, 3) := by decide +kernel
theorem dX10_fillsWays_61 : decode cX10_fillsWays 61 = .ok (.aload_n 0, 1) := by decide +kernel
theorem dX10_fillsWays_62 : decode cX10_fillsWays 62 = .ok (.iload_n 1, 1) := by decide +kernel
theorem dX10_fillsWays_63 : decode cX10_fillsWays 63 = .ok (.iload 4, 2) := by decide +kernel
theorem dX10_fillsWays_65 : decode cX10_fillsWays 65 = .ok (.invokevirtual 304, 3) := by decide +kernel
theorem dX10_fillsWays_68 : decode cX10_fillsWays 68 = .ok (.iconst 1, 1) := by decide +kernel
theorem dX10_fillsWays_69 : decode cX10_fillsWays 69 = .ok (.if_icmp .ge 6, 3) := by decide +kernel
theorem dX10_fillsWays_72 : decode cX10_fillsWays 72 = .ok (.goto 94, 3) := by decide +kernel
theorem dX10_fillsWays_75 : decode cX10_fillsWays 75 = .ok (.iconst 0, 1) := by decide +kernel
theorem dX10_fillsWays_76 : decode cX10_fillsWays 76 = .ok (.istore 5, 2) := by decide +kernel
theorem dX10_fillsWays_78 : decode cX10_fillsWays 78 = .ok (.iload 5, 2) := by decide +kernel
theorem dX10_fillsWays_80 : decode cX10_fillsWays 80 = .ok (.iconst 2, 1) := by decide +kernel
theorem dX10_fillsWays_81 : decode cX10_fillsWays 81 = .ok (.if_icmp .ge 85, 3) := by decide +kernel
theorem dX10_fillsWays_84 : decode cX10_fillsWays 84 = .ok (.aload_n 0, 1) := by decide +kernel
theorem dX10_fillsWays_85 : decode cX10_fillsWays 85 = .ok (.getfield 39, 3) := by decide +kernel
theorem dX10_fillsWays_88 : decode cX10_fillsWays 88 = .ok (.bipush 94, 2) := by decide +kernel
theorem dX10_fillsWays_90 : decode cX10_fillsWays 90 = .ok (.iconst 2, 1) := by decide +kernel
theorem dX10_fillsWays_91 : decode cX10_fillsWays 91 = .ok (.iload 4, 2) := by decide +kernel
theorem dX10_fillsWays_93 : decode cX10_fillsWays 93 = .ok (.imul, 1) := by decide +kernel
theorem dX10_fillsWays_94 : decode cX10_fillsWays 94 = .ok (.iadd, 1) := by decide +kernel
theorem dX10_fillsWays_95 : decode cX10_fillsWays 95 = .ok (.iload 5, 2) := by decide +kernel
theorem dX10_fillsWays_97 : decode cX10_fillsWays 97 = .ok (.iadd, 1) := by decide +kernel
theorem dX10_fillsWays_98 : decode cX10_fillsWays 98 = .ok (.iaload, 1) := by decide +kernel
theorem dX10_fillsWays_99 : decode cX10_fillsWays 99 = .ok (.istore 6, 2) := by decide +kernel
theorem dX10_fillsWays_101 : decode cX10_fillsWays 101 = .ok (.aload_n 0, 1) := by decide +kernel
theorem dX10_fillsWays_102 : decode cX10_fillsWays 102 = .ok (.getfield 39, 3) := by decide +kernel
theorem dX10_fillsWays_105 : decode cX10_fillsWays 105 = .ok (.bipush 94, 2) := by decide +kernel
theorem dX10_fillsWays_107 : decode cX10_fillsWays 107 = .ok (.iconst 2, 1) := by decide +kernel
theorem dX10_fillsWays_108 : decode cX10_fillsWays 108 = .ok (.iload 4, 2) := by decide +kernel
theorem dX10_fillsWays_110 : decode cX10_fillsWays 110 = .ok (.imul, 1) := by decide +kernel
theorem dX10_fillsWays_111 : decode cX10_fillsWays 111 = .ok (.iadd, 1) := by decide +kernel
theorem dX10_fillsWays_112 : decode cX10_fillsWays 112 = .ok (.iconst 1, 1) := by decide +kernel
theorem dX10_fillsWays_113 : decode cX10_fillsWays 113 = .ok (.iadd, 1) := by decide +kernel
theorem dX10_fillsWays_114 : decode cX10_fillsWays 114 = .ok (.iload 5, 2) := by decide +kernel
theorem dX10_fillsWays_116 : decode cX10_fillsWays 116 = .ok (.isub, 1) := by decide +kernel
theorem dX10_fillsWays_117 : decode cX10_fillsWays 117 = .ok (.iaload, 1) := by decide +kernel
theorem dX10_fillsWays_118 : decode cX10_fillsWays 118 = .ok (.istore 7, 2) := by decide +kernel
theorem dX10_fillsWays_120 : decode cX10_fillsWays 120 = .ok (.aload_n 0, 1) := by decide +kernel
theorem dX10_fillsWays_121 : decode cX10_fillsWays 121 = .ok (.getfield 45, 3) := by decide +kernel
theorem dX10_fillsWays_124 : decode cX10_fillsWays 124 = .ok (.iload 6, 2) := by decide +kernel
theorem dX10_fillsWays_126 : decode cX10_fillsWays 126 = .ok (.iaload, 1) := by decide +kernel
theorem dX10_fillsWays_127 : decode cX10_fillsWays 127 = .ok (.iconst 1, 1) := by decide +kernel
theorem dX10_fillsWays_128 : decode cX10_fillsWays 128 = .ok (.iadd, 1) := by decide +kernel
theorem dX10_fillsWays_129 : decode cX10_fillsWays 129 = .ok (.aload_n 0, 1) := by decide +kernel
theorem dX10_fillsWays_130 : decode cX10_fillsWays 130 = .ok (.getfield 45, 3) := by decide +kernel
theorem dX10_fillsWays_133 : decode cX10_fillsWays 133 = .ok (.iload 7, 2) := by decide +kernel
theorem dX10_fillsWays_135 : decode cX10_fillsWays 135 = .ok (.iaload, 1) := by decide +kernel
theorem dX10_fillsWays_136 : decode cX10_fillsWays 136 = .ok (.if_icmp .lt 6, 3) := by decide +kernel
theorem dX10_fillsWays_139 : decode cX10_fillsWays 139 = .ok (.goto 21, 3) := by decide +kernel
theorem dX10_fillsWays_142 : decode cX10_fillsWays 142 = .ok (.aload_n 0, 1) := by decide +kernel
theorem dX10_fillsWays_143 : decode cX10_fillsWays 143 = .ok (.getfield 45, 3) := by decide +kernel
theorem dX10_fillsWays_146 : decode cX10_fillsWays 146 = .ok (.iload 7, 2) := by decide +kernel
theorem dX10_fillsWays_148 : decode cX10_fillsWays 148 = .ok (.aload_n 0, 1) := by decide +kernel
theorem dX10_fillsWays_149 : decode cX10_fillsWays 149 = .ok (.getfield 45, 3) := by decide +kernel
theorem dX10_fillsWays_152 : decode cX10_fillsWays 152 = .ok (.iload 6, 2) := by decide +kernel
theorem dX10_fillsWays_154 : decode cX10_fillsWays 154 = .ok (.iaload, 1) := by decide +kernel
theorem dX10_fillsWays_155 : decode cX10_fillsWays 155 = .ok (.iconst 1, 1) := by decide +kernel
theorem dX10_fillsWays_156 : decode cX10_fillsWays 156 = .ok (.iadd, 1) := by decide +kernel
theorem dX10_fillsWays_157 : decode cX10_fillsWays 157 = .ok (.iastore, 1) := by decide +kernel
theorem dX10_fillsWays_158 : decode cX10_fillsWays 158 = .ok (.iconst 1, 1) := by decide +kernel
theorem dX10_fillsWays_159 : decode cX10_fillsWays 159 = .ok (.istore_n 3, 1) := by decide +kernel
theorem dX10_fillsWays_160 : decode cX10_fillsWays 160 = .ok (.iinc 5 1, 3) := by decide +kernel
theorem dX10_fillsWays_163 : decode cX10_fillsWays 163 = .ok (.goto (-85), 3) := by decide +kernel
theorem dX10_fillsWays_166 : decode cX10_fillsWays 166 = .ok (.iinc 4 1, 3) := by decide +kernel
theorem dX10_fillsWays_169 : decode cX10_fillsWays 169 = .ok (.goto (-123), 3) := by decide +kernel
theorem dX10_fillsWays_172 : decode cX10_fillsWays 172 = .ok (.goto (-135), 3) := by decide +kernel
theorem dX10_fillsWays_175 : decode cX10_fillsWays 175 = .ok (.return_, 1) := by decide +kernel
theorem dX10_reachOf_0 : decode cX10_reachOf 0 = .ok (.iconst 0, 1) := by decide +kernel
theorem dX10_reachOf_1 : decode cX10_reachOf 1 = .ok (.istore_n 2, 1) := by decide +kernel
theorem dX10_reachOf_2 : decode cX10_reachOf 2 = .ok (.aload_n 0, 1) := by decide +kernel
theorem dX10_reachOf_3 : decode cX10_reachOf 3 = .ok (.iload_n 1, 1) := by decide +kernel
theorem dX10_reachOf_4 : decode cX10_reachOf 4 = .ok (.aload_n 0, 1) := by decide +kernel
theorem dX10_reachOf_5 : decode cX10_reachOf 5 = .ok (.iload_n 1, 1) := by decide +kernel
theorem dX10_reachOf_6 : decode cX10_reachOf 6 = .ok (.iconst 0, 1) := by decide +kernel
theorem dX10_reachOf_7 : decode cX10_reachOf 7 = .ok (.invokevirtual 307, 3) := by decide +kernel
theorem dX10_reachOf_10 : decode cX10_reachOf 10 = .ok (.invokevirtual 310, 3) := by decide +kernel
theorem dX10_reachOf_13 : decode cX10_reachOf 13 = .ok (.iconst 0, 1) := by decide +kernel
theorem dX10_reachOf_14 : decode cX10_reachOf 14 = .ok (.istore_n 3, 1) := by decide +kernel
theorem dX10_reachOf_15 : decode cX10_reachOf 15 = .ok (.iload_n 3, 1) := by decide +kernel
theorem dX10_reachOf_16 : decode cX10_reachOf 16 = .ok (.aload_n 0, 1) := by decide +kernel
theorem dX10_reachOf_17 : decode cX10_reachOf 17 = .ok (.getfield 39, 3) := by decide +kernel
theorem dX10_reachOf_20 : decode cX10_reachOf 20 = .ok (.iconst 0, 1) := by decide +kernel
theorem dX10_reachOf_21 : decode cX10_reachOf 21 = .ok (.iaload, 1) := by decide +kernel
theorem dX10_reachOf_22 : decode cX10_reachOf 22 = .ok (.if_icmp .ge 30, 3) := by decide +kernel
theorem dX10_reachOf_25 : decode cX10_reachOf 25 = .ok (.iload_n 2, 1) := by decide +kernel
theorem dX10_reachOf_26 : decode cX10_reachOf 26 = .ok (.aload_n 0, 1) := by decide +kernel
theorem dX10_reachOf_27 : decode cX10_reachOf 27 = .ok (.getfield 45, 3) := by decide +kernel
theorem dX10_reachOf_30 : decode cX10_reachOf 30 = .ok (.iload_n 3, 1) := by decide +kernel
theorem dX10_reachOf_31 : decode cX10_reachOf 31 = .ok (.iaload, 1) := by decide +kernel
theorem dX10_reachOf_32 : decode cX10_reachOf 32 = .ok (.bipush 99, 2) := by decide +kernel
theorem dX10_reachOf_34 : decode cX10_reachOf 34 = .ok (.if_icmp .ge 9, 3) := by decide +kernel
theorem dX10_reachOf_37 : decode cX10_reachOf 37 = .ok (.iconst 1, 1) := by decide +kernel
theorem dX10_reachOf_38 : decode cX10_reachOf 38 = .ok (.iload_n 3, 1) := by decide +kernel
theorem dX10_reachOf_39 : decode cX10_reachOf 39 = .ok (.ishl, 1) := by decide +kernel
theorem dX10_reachOf_40 : decode cX10_reachOf 40 = .ok (.goto 4, 3) := by decide +kernel
theorem dX10_reachOf_43 : decode cX10_reachOf 43 = .ok (.iconst 0, 1) := by decide +kernel
theorem dX10_reachOf_44 : decode cX10_reachOf 44 = .ok (.ior, 1) := by decide +kernel
theorem dX10_reachOf_45 : decode cX10_reachOf 45 = .ok (.istore_n 2, 1) := by decide +kernel
theorem dX10_reachOf_46 : decode cX10_reachOf 46 = .ok (.iinc 3 1, 3) := by decide +kernel
theorem dX10_reachOf_49 : decode cX10_reachOf 49 = .ok (.goto (-34), 3) := by decide +kernel
theorem dX10_reachOf_52 : decode cX10_reachOf 52 = .ok (.iload_n 2, 1) := by decide +kernel
theorem dX10_reachOf_53 : decode cX10_reachOf 53 = .ok (.ireturn, 1) := by decide +kernel
theorem dX10_wayOf_0 : decode cX10_wayOf 0 = .ok (.aload_n 0, 1) := by decide +kernel
theorem dX10_wayOf_1 : decode cX10_wayOf 1 = .ok (.iload_n 1, 1) := by decide +kernel
theorem dX10_wayOf_2 : decode cX10_wayOf 2 = .ok (.iload_n 2, 1) := by decide +kernel
theorem dX10_wayOf_3 : decode cX10_wayOf 3 = .ok (.invokevirtual 310, 3) := by decide +kernel
theorem dX10_wayOf_6 : decode cX10_wayOf 6 = .ok (.aload_n 0, 1) := by decide +kernel
theorem dX10_wayOf_7 : decode cX10_wayOf 7 = .ok (.getfield 45, 3) := by decide +kernel
theorem dX10_wayOf_10 : decode cX10_wayOf 10 = .ok (.aload_n 0, 1) := by decide +kernel
theorem dX10_wayOf_11 : decode cX10_wayOf 11 = .ok (.iload_n 1, 1) := by decide +kernel
theorem dX10_wayOf_12 : decode cX10_wayOf 12 = .ok (.iconst 0, 1) := by decide +kernel
theorem dX10_wayOf_13 : decode cX10_wayOf 13 = .ok (.invokevirtual 307, 3) := by decide +kernel
theorem dX10_wayOf_16 : decode cX10_wayOf 16 = .ok (.iaload, 1) := by decide +kernel
theorem dX10_wayOf_17 : decode cX10_wayOf 17 = .ok (.ireturn, 1) := by decide +kernel
theorem dX10_lostOf_0 : decode cX10_lostOf 0 = .ok (.iconst 0, 1) := by decide +kernel
theorem dX10_lostOf_1 : decode cX10_lostOf 1 = .ok (.istore_n 2, 1) := by decide +kernel
theorem dX10_lostOf_2 : decode cX10_lostOf 2 = .ok (.iconst 0, 1) := by decide +kernel
theorem dX10_lostOf_3 : decode cX10_lostOf 3 = .ok (.istore_n 3, 1) := by decide +kernel
theorem dX10_lostOf_4 : decode cX10_lostOf 4 = .ok (.iload_n 3, 1) := by decide +kernel
theorem dX10_lostOf_5 : decode cX10_lostOf 5 = .ok (.aload_n 0, 1) := by decide +kernel
theorem dX10_lostOf_6 : decode cX10_lostOf 6 = .ok (.getfield 39, 3) := by decide +kernel
theorem dX10_lostOf_9 : decode cX10_lostOf 9 = .ok (.iconst 2, 1) := by decide +kernel
theorem dX10_lostOf_10 : decode cX10_lostOf 10 = .ok (.iaload, 1) := by decide +kernel
theorem dX10_lostOf_11 : decode cX10_lostOf 11 = .ok (.if_icmp .ge 28, 3) := by decide +kernel
theorem dX10_lostOf_14 : decode cX10_lostOf 14 = .ok (.iload_n 2, 1) := by decide +kernel
theorem dX10_lostOf_15 : decode cX10_lostOf 15 = .ok (.aload_n 0, 1) := by decide +kernel
theorem dX10_lostOf_16 : decode cX10_lostOf 16 = .ok (.iload_n 1, 1) := by decide +kernel
theorem dX10_lostOf_17 : decode cX10_lostOf 17 = .ok (.iload_n 3, 1) := by decide +kernel
theorem dX10_lostOf_18 : decode cX10_lostOf 18 = .ok (.invokevirtual 304, 3) := by decide +kernel
theorem dX10_lostOf_21 : decode cX10_lostOf 21 = .ok (.ifCond .ne 9, 3) := by decide +kernel
theorem dX10_lostOf_24 : decode cX10_lostOf 24 = .ok (.iconst 1, 1) := by decide +kernel
theorem dX10_lostOf_25 : decode cX10_lostOf 25 = .ok (.iload_n 3, 1) := by decide +kernel
theorem dX10_lostOf_26 : decode cX10_lostOf 26 = .ok (.ishl, 1) := by decide +kernel
theorem dX10_lostOf_27 : decode cX10_lostOf 27 = .ok (.goto 4, 3) := by decide +kernel
theorem dX10_lostOf_30 : decode cX10_lostOf 30 = .ok (.iconst 0, 1) := by decide +kernel
theorem dX10_lostOf_31 : decode cX10_lostOf 31 = .ok (.ior, 1) := by decide +kernel
theorem dX10_lostOf_32 : decode cX10_lostOf 32 = .ok (.istore_n 2, 1) := by decide +kernel
theorem dX10_lostOf_33 : decode cX10_lostOf 33 = .ok (.iinc 3 1, 3) := by decide +kernel
theorem dX10_lostOf_36 : decode cX10_lostOf 36 = .ok (.goto (-32), 3) := by decide +kernel
theorem dX10_lostOf_39 : decode cX10_lostOf 39 = .ok (.iload_n 2, 1) := by decide +kernel
theorem dX10_lostOf_40 : decode cX10_lostOf 40 = .ok (.ireturn, 1) := by decide +kernel
theorem dX10_nextWant_0 : decode cX10_nextWant 0 = .ok (.iconst (-1), 1) := by decide +kernel
theorem dX10_nextWant_1 : decode cX10_nextWant 1 = .ok (.istore_n 2, 1) := by decide +kernel
theorem dX10_nextWant_2 : decode cX10_nextWant 2 = .ok (.iconst 0, 1) := by decide +kernel
theorem dX10_nextWant_3 : decode cX10_nextWant 3 = .ok (.istore_n 3, 1) := by decide +kernel
theorem dX10_nextWant_4 : decode cX10_nextWant 4 = .ok (.iload_n 3, 1) := by decide +kernel
theorem dX10_nextWant_5 : decode cX10_nextWant 5 = .ok (.aload_n 0, 1) := by decide +kernel
theorem dX10_nextWant_6 : decode cX10_nextWant 6 = .ok (.getfield 39, 3) := by decide +kernel
theorem dX10_nextWant_9 : decode cX10_nextWant 9 = .ok (.iconst 5, 1) := by decide +kernel
theorem dX10_nextWant_10 : decode cX10_nextWant 10 = .ok (.iaload, 1) := by decide +kernel
theorem dX10_nextWant_11 : decode cX10_nextWant 11 = .ok (.if_icmp .ge 83, 3) := by decide +kernel
theorem dX10_nextWant_14 : decode cX10_nextWant 14 = .ok (.sipush 128, 3) := by decide +kernel
theorem dX10_nextWant_17 : decode cX10_nextWant 17 = .ok (.iconst 4, 1) := by decide +kernel
theorem dX10_nextWant_18 : decode cX10_nextWant 18 = .ok (.iload_n 3, 1) := by decide +kernel
theorem dX10_nextWant_19 : decode cX10_nextWant 19 = .ok (.imul, 1) := by decide +kernel
theorem dX10_nextWant_20 : decode cX10_nextWant 20 = .ok (.iadd, 1) := by decide +kernel
theorem dX10_nextWant_21 : decode cX10_nextWant 21 = .ok (.istore 4, 2) := by decide +kernel
theorem dX10_nextWant_23 : decode cX10_nextWant 23 = .ok (.aload_n 0, 1) := by decide +kernel
theorem dX10_nextWant_24 : decode cX10_nextWant 24 = .ok (.getfield 39, 3) := by decide +kernel
theorem dX10_nextWant_27 : decode cX10_nextWant 27 = .ok (.iload 4, 2) := by decide +kernel
theorem dX10_nextWant_29 : decode cX10_nextWant 29 = .ok (.iaload, 1) := by decide +kernel
theorem dX10_nextWant_30 : decode cX10_nextWant 30 = .ok (.iload_n 1, 1) := by decide +kernel
theorem dX10_nextWant_31 : decode cX10_nextWant 31 = .ok (.if_icmp .ne 57, 3) := by decide +kernel
theorem dX10_nextWant_34 : decode cX10_nextWant 34 = .ok (.aload_n 0, 1) := by decide +kernel
theorem dX10_nextWant_35 : decode cX10_nextWant 35 = .ok (.getfield 39, 3) := by decide +kernel
theorem dX10_nextWant_38 : decode cX10_nextWant 38 = .ok (.iload 4, 2) := by decide +kernel
theorem dX10_nextWant_40 : decode cX10_nextWant 40 = .ok (.iconst 2, 1) := by decide +kernel
theorem dX10_nextWant_41 : decode cX10_nextWant 41 = .ok (.iadd, 1) := by decide +kernel
theorem dX10_nextWant_42 : decode cX10_nextWant 42 = .ok (.iaload, 1) := by decide +kernel
theorem dX10_nextWant_43 : decode cX10_nextWant 43 = .ok (.aload_n 0, 1) := by decide +kernel
theorem dX10_nextWant_44 : decode cX10_nextWant 44 = .ok (.getfield 39, 3) := by decide +kernel
theorem dX10_nextWant_47 : decode cX10_nextWant 47 = .ok (.bipush 6, 2) := by decide +kernel
theorem dX10_nextWant_49 : decode cX10_nextWant 49 = .ok (.iaload, 1) := by decide +kernel
theorem dX10_nextWant_50 : decode cX10_nextWant 50 = .ok (.if_icmp .ge 6, 3) := by decide +kernel
theorem dX10_nextWant_53 : decode cX10_nextWant 53 = .ok (.goto 35, 3) := by decide +kernel
theorem dX10_nextWant_56 : decode cX10_nextWant 56 = .ok (.iload_n 2, 1) := by decide +kernel
theorem dX10_nextWant_57 : decode cX10_nextWant 57 = .ok (.ifCond .lt 29, 3) := by decide +kernel
theorem dX10_nextWant_60 : decode cX10_nextWant 60 = .ok (.aload_n 0, 1) := by decide +kernel
theorem dX10_nextWant_61 : decode cX10_nextWant 61 = .ok (.getfield 39, 3) := by decide +kernel
theorem dX10_nextWant_64 : decode cX10_nextWant 64 = .ok (.iload 4, 2) := by decide +kernel
theorem dX10_nextWant_66 : decode cX10_nextWant 66 = .ok (.iconst 2, 1) := by decide +kernel
theorem dX10_nextWant_67 : decode cX10_nextWant 67 = .ok (.iadd, 1) := by decide +kernel
theorem dX10_nextWant_68 : decode cX10_nextWant 68 = .ok (.iaload, 1) := by decide +kernel
theorem dX10_nextWant_69 : decode cX10_nextWant 69 = .ok (.aload_n 0, 1) := by decide +kernel
theorem dX10_nextWant_70 : decode cX10_nextWant 70 = .ok (.getfield 39, 3) := by decide +kernel
theorem dX10_nextWant_73 : decode cX10_nextWant 73 = .ok (.sipush 128, 3) := by decide +kernel
theorem dX10_nextWant_76 : decode cX10_nextWant 76 = .ok (.iconst 4, 1) := by decide +kernel
theorem dX10_nextWant_77 : decode cX10_nextWant 77 = .ok (.iload_n 2, 1) := by decide +kernel
theorem dX10_nextWant_78 : decode cX10_nextWant 78 = .ok (.imul, 1) := by decide +kernel
theorem dX10_nextWant_79 : decode cX10_nextWant 79 = .ok (.iadd, 1) := by decide +kernel
theorem dX10_nextWant_80 : decode cX10_nextWant 80 = .ok (.iconst 2, 1) := by decide +kernel
theorem dX10_nextWant_81 : decode cX10_nextWant 81 = .ok (.iadd, 1) := by decide +kernel
theorem dX10_nextWant_82 : decode cX10_nextWant 82 = .ok (.iaload, 1) := by decide +kernel
theorem dX10_nextWant_83 : decode cX10_nextWant 83 = .ok (.if_icmp .ge 5, 3) := by decide +kernel
theorem dX10_nextWant_86 : decode cX10_nextWant 86 = .ok (.iload_n 3, 1) := by decide +kernel
theorem dX10_nextWant_87 : decode cX10_nextWant 87 = .ok (.istore_n 2, 1) := by decide +kernel
theorem dX10_nextWant_88 : decode cX10_nextWant 88 = .ok (.iinc 3 1, 3) := by decide +kernel
theorem dX10_nextWant_91 : decode cX10_nextWant 91 = .ok (.goto (-87), 3) := by decide +kernel
theorem dX10_nextWant_94 : decode cX10_nextWant 94 = .ok (.iload_n 2, 1) := by decide +kernel
theorem dX10_nextWant_95 : decode cX10_nextWant 95 = .ok (.ireturn, 1) := by decide +kernel
theorem dX10_goalOf_0 : decode cX10_goalOf 0 = .ok (.aload_n 0, 1) := by decide +kernel
theorem dX10_goalOf_1 : decode cX10_goalOf 1 = .ok (.iload_n 1, 1) := by decide +kernel
theorem dX10_goalOf_2 : decode cX10_goalOf 2 = .ok (.invokevirtual 313, 3) := by decide +kernel
theorem dX10_goalOf_5 : decode cX10_goalOf 5 = .ok (.istore_n 2, 1) := by decide +kernel
theorem dX10_goalOf_6 : decode cX10_goalOf 6 = .ok (.iload_n 2, 1) := by decide +kernel
theorem dX10_goalOf_7 : decode cX10_goalOf 7 = .ok (.ifCond .ge 12, 3) := by decide +kernel
theorem dX10_goalOf_10 : decode cX10_goalOf 10 = .ok (.aload_n 0, 1) := by decide +kernel
theorem dX10_goalOf_11 : decode cX10_goalOf 11 = .ok (.iload_n 1, 1) := by decide +kernel
theorem dX10_goalOf_12 : decode cX10_goalOf 12 = .ok (.iconst 1, 1) := by decide +kernel
theorem dX10_goalOf_13 : decode cX10_goalOf 13 = .ok (.invokevirtual 307, 3) := by decide +kernel
theorem dX10_goalOf_16 : decode cX10_goalOf 16 = .ok (.goto 17, 3) := by decide +kernel
theorem dX10_goalOf_19 : decode cX10_goalOf 19 = .ok (.aload_n 0, 1) := by decide +kernel
theorem dX10_goalOf_20 : decode cX10_goalOf 20 = .ok (.getfield 39, 3) := by decide +kernel
theorem dX10_goalOf_23 : decode cX10_goalOf 23 = .ok (.sipush 128, 3) := by decide +kernel
theorem dX10_goalOf_26 : decode cX10_goalOf 26 = .ok (.iconst 4, 1) := by decide +kernel
theorem dX10_goalOf_27 : decode cX10_goalOf 27 = .ok (.iload_n 2, 1) := by decide +kernel
theorem dX10_goalOf_28 : decode cX10_goalOf 28 = .ok (.imul, 1) := by decide +kernel
theorem dX10_goalOf_29 : decode cX10_goalOf 29 = .ok (.iadd, 1) := by decide +kernel
theorem dX10_goalOf_30 : decode cX10_goalOf 30 = .ok (.iconst 1, 1) := by decide +kernel
theorem dX10_goalOf_31 : decode cX10_goalOf 31 = .ok (.iadd, 1) := by decide +kernel
theorem dX10_goalOf_32 : decode cX10_goalOf 32 = .ok (.iaload, 1) := by decide +kernel
theorem dX10_goalOf_33 : decode cX10_goalOf 33 = .ok (.ireturn, 1) := by decide +kernel
theorem dX10_person_0 : decode cX10_person 0 = .ok (.aload_n 0, 1) := by decide +kernel
theorem dX10_person_1 : decode cX10_person 1 = .ok (.iload_n 1, 1) := by decide +kernel
theorem dX10_person_2 : decode cX10_person 2 = .ok (.invokevirtual 316, 3) := by decide +kernel
theorem dX10_person_5 : decode cX10_person 5 = .ok (.ifCond .ne 5, 3) := by decide +kernel
theorem dX10_person_8 : decode cX10_person 8 = .ok (.iconst (-1), 1) := by decide +kernel
theorem dX10_person_9 : decode cX10_person 9 = .ok (.ireturn, 1) := by decide +kernel
theorem dX10_person_10 : decode cX10_person 10 = .ok (.iload_n 2, 1) := by decide +kernel
theorem dX10_person_11 : decode cX10_person 11 = .ok (.tableswitch 62 0 5 #[37, 37, 37, 44, 50, 56], 37) := by decide +kernel
theorem dX10_person_48 : decode cX10_person 48 = .ok (.aload_n 0, 1) := by decide +kernel
theorem dX10_person_49 : decode cX10_person 49 = .ok (.iload_n 1, 1) := by decide +kernel
theorem dX10_person_50 : decode cX10_person 50 = .ok (.iload_n 2, 1) := by decide +kernel
theorem dX10_person_51 : decode cX10_person 51 = .ok (.invokevirtual 307, 3) := by decide +kernel
theorem dX10_person_54 : decode cX10_person 54 = .ok (.ireturn, 1) := by decide +kernel
theorem dX10_person_55 : decode cX10_person 55 = .ok (.aload_n 0, 1) := by decide +kernel
theorem dX10_person_56 : decode cX10_person 56 = .ok (.iload_n 1, 1) := by decide +kernel
theorem dX10_person_57 : decode cX10_person 57 = .ok (.invokevirtual 319, 3) := by decide +kernel
theorem dX10_person_60 : decode cX10_person 60 = .ok (.ireturn, 1) := by decide +kernel
theorem dX10_person_61 : decode cX10_person 61 = .ok (.aload_n 0, 1) := by decide +kernel
theorem dX10_person_62 : decode cX10_person 62 = .ok (.iload_n 1, 1) := by decide +kernel
theorem dX10_person_63 : decode cX10_person 63 = .ok (.invokevirtual 322, 3) := by decide +kernel
theorem dX10_person_66 : decode cX10_person 66 = .ok (.ireturn, 1) := by decide +kernel
theorem dX10_person_67 : decode cX10_person 67 = .ok (.aload_n 0, 1) := by decide +kernel
theorem dX10_person_68 : decode cX10_person 68 = .ok (.iload_n 1, 1) := by decide +kernel
theorem dX10_person_69 : decode cX10_person 69 = .ok (.invokevirtual 325, 3) := by decide +kernel
theorem dX10_person_72 : decode cX10_person 72 = .ok (.ireturn, 1) := by decide +kernel
theorem dX10_person_73 : decode cX10_person 73 = .ok (.iconst (-1), 1) := by decide +kernel
theorem dX10_person_74 : decode cX10_person 74 = .ok (.ireturn, 1) := by decide +kernel
theorem dX10_left_0 : decode cX10_left 0 = .ok (.aload_n 0, 1) := by decide +kernel
theorem dX10_left_1 : decode cX10_left 1 = .ok (.iload_n 1, 1) := by decide +kernel
theorem dX10_left_2 : decode cX10_left 2 = .ok (.invokevirtual 316, 3) := by decide +kernel
theorem dX10_left_5 : decode cX10_left 5 = .ok (.ifCond .eq 20, 3) := by decide +kernel
theorem dX10_left_8 : decode cX10_left 8 = .ok (.aload_n 0, 1) := by decide +kernel
theorem dX10_left_9 : decode cX10_left 9 = .ok (.iload_n 2, 1) := by decide +kernel
theorem dX10_left_10 : decode cX10_left 10 = .ok (.invokevirtual 328, 3) := by decide +kernel
theorem dX10_left_13 : decode cX10_left 13 = .ok (.ifCond .eq 12, 3) := by decide +kernel
theorem dX10_left_16 : decode cX10_left 16 = .ok (.aload_n 0, 1) := by decide +kernel
theorem dX10_left_17 : decode cX10_left 17 = .ok (.iload_n 1, 1) := by decide +kernel
theorem dX10_left_18 : decode cX10_left 18 = .ok (.iload_n 2, 1) := by decide +kernel
theorem dX10_left_19 : decode cX10_left 19 = .ok (.invokevirtual 304, 3) := by decide +kernel
theorem dX10_left_22 : decode cX10_left 22 = .ok (.goto 4, 3) := by decide +kernel
theorem dX10_left_25 : decode cX10_left 25 = .ok (.iconst (-1), 1) := by decide +kernel
theorem dX10_left_26 : decode cX10_left 26 = .ok (.ireturn, 1) := by decide +kernel
theorem dX10_crossedByAll_0 : decode cX10_crossedByAll 0 = .ok (.iconst 0, 1) := by decide +kernel
theorem dX10_crossedByAll_1 : decode cX10_crossedByAll 1 = .ok (.istore_n 2, 1) := by decide +kernel
theorem dX10_crossedByAll_2 : decode cX10_crossedByAll 2 = .ok (.iconst 0, 1) := by decide +kernel
theorem dX10_crossedByAll_3 : decode cX10_crossedByAll 3 = .ok (.istore_n 3, 1) := by decide +kernel
theorem dX10_crossedByAll_4 : decode cX10_crossedByAll 4 = .ok (.iload_n 3, 1) := by decide +kernel
theorem dX10_crossedByAll_5 : decode cX10_crossedByAll 5 = .ok (.aload_n 0, 1) := by decide +kernel
theorem dX10_crossedByAll_6 : decode cX10_crossedByAll 6 = .ok (.getfield 39, 3) := by decide +kernel
theorem dX10_crossedByAll_9 : decode cX10_crossedByAll 9 = .ok (.iconst 4, 1) := by decide +kernel
theorem dX10_crossedByAll_10 : decode cX10_crossedByAll 10 = .ok (.iaload, 1) := by decide +kernel
theorem dX10_crossedByAll_11 : decode cX10_crossedByAll 11 = .ok (.if_icmp .ge 18, 3) := by decide +kernel
theorem dX10_crossedByAll_14 : decode cX10_crossedByAll 14 = .ok (.iload_n 2, 1) := by decide +kernel
theorem dX10_crossedByAll_15 : decode cX10_crossedByAll 15 = .ok (.aload_n 0, 1) := by decide +kernel
theorem dX10_crossedByAll_16 : decode cX10_crossedByAll 16 = .ok (.iload_n 3, 1) := by decide +kernel
theorem dX10_crossedByAll_17 : decode cX10_crossedByAll 17 = .ok (.iload_n 1, 1) := by decide +kernel
theorem dX10_crossedByAll_18 : decode cX10_crossedByAll 18 = .ok (.invokevirtual 297, 3) := by decide +kernel
theorem dX10_crossedByAll_21 : decode cX10_crossedByAll 21 = .ok (.iadd, 1) := by decide +kernel
theorem dX10_crossedByAll_22 : decode cX10_crossedByAll 22 = .ok (.istore_n 2, 1) := by decide +kernel
theorem dX10_crossedByAll_23 : decode cX10_crossedByAll 23 = .ok (.iinc 3 1, 3) := by decide +kernel
theorem dX10_crossedByAll_26 : decode cX10_crossedByAll 26 = .ok (.goto (-22), 3) := by decide +kernel
theorem dX10_crossedByAll_29 : decode cX10_crossedByAll 29 = .ok (.iload_n 2, 1) := by decide +kernel
theorem dX10_crossedByAll_30 : decode cX10_crossedByAll 30 = .ok (.ireturn, 1) := by decide +kernel
theorem dX10_bridge_0 : decode cX10_bridge 0 = .ok (.aload_n 0, 1) := by decide +kernel
theorem dX10_bridge_1 : decode cX10_bridge 1 = .ok (.iload_n 1, 1) := by decide +kernel
theorem dX10_bridge_2 : decode cX10_bridge 2 = .ok (.invokevirtual 328, 3) := by decide +kernel
theorem dX10_bridge_5 : decode cX10_bridge 5 = .ok (.ifCond .eq 15, 3) := by decide +kernel
theorem dX10_bridge_8 : decode cX10_bridge 8 = .ok (.iload_n 2, 1) := by decide +kernel
theorem dX10_bridge_9 : decode cX10_bridge 9 = .ok (.i2l, 1) := by decide +kernel
theorem dX10_bridge_10 : decode cX10_bridge 10 = .ok (.lconst 0, 1) := by decide +kernel
theorem dX10_bridge_11 : decode cX10_bridge 11 = .ok (.ldc2_w 331, 3) := by decide +kernel
theorem dX10_bridge_14 : decode cX10_bridge 14 = .ok (.invokestatic 118, 3) := by decide +kernel
theorem dX10_bridge_17 : decode cX10_bridge 17 = .ok (.ifCond .ne 5, 3) := by decide +kernel
theorem dX10_bridge_20 : decode cX10_bridge 20 = .ok (.iconst (-1), 1) := by decide +kernel
theorem dX10_bridge_21 : decode cX10_bridge 21 = .ok (.ireturn, 1) := by decide +kernel
theorem dX10_bridge_22 : decode cX10_bridge 22 = .ok (.iload_n 2, 1) := by decide +kernel
theorem dX10_bridge_23 : decode cX10_bridge 23 = .ok (.iconst 2, 1) := by decide +kernel
theorem dX10_bridge_24 : decode cX10_bridge 24 = .ok (.if_icmp .ge 19, 3) := by decide +kernel
theorem dX10_bridge_27 : decode cX10_bridge 27 = .ok (.aload_n 0, 1) := by decide +kernel
theorem dX10_bridge_28 : decode cX10_bridge 28 = .ok (.getfield 39, 3) := by decide +kernel
theorem dX10_bridge_31 : decode cX10_bridge 31 = .ok (.bipush 94, 2) := by decide +kernel
theorem dX10_bridge_33 : decode cX10_bridge 33 = .ok (.iconst 2, 1) := by decide +kernel
theorem dX10_bridge_34 : decode cX10_bridge 34 = .ok (.iload_n 1, 1) := by decide +kernel
theorem dX10_bridge_35 : decode cX10_bridge 35 = .ok (.imul, 1) := by decide +kernel
theorem dX10_bridge_36 : decode cX10_bridge 36 = .ok (.iadd, 1) := by decide +kernel
theorem dX10_bridge_37 : decode cX10_bridge 37 = .ok (.iload_n 2, 1) := by decide +kernel
theorem dX10_bridge_38 : decode cX10_bridge 38 = .ok (.iadd, 1) := by decide +kernel
theorem dX10_bridge_39 : decode cX10_bridge 39 = .ok (.iaload, 1) := by decide +kernel
theorem dX10_bridge_40 : decode cX10_bridge 40 = .ok (.goto 8, 3) := by decide +kernel
theorem dX10_bridge_43 : decode cX10_bridge 43 = .ok (.aload_n 0, 1) := by decide +kernel
theorem dX10_bridge_44 : decode cX10_bridge 44 = .ok (.iload_n 1, 1) := by decide +kernel
theorem dX10_bridge_45 : decode cX10_bridge 45 = .ok (.invokevirtual 333, 3) := by decide +kernel
theorem dX10_bridge_48 : decode cX10_bridge 48 = .ok (.ireturn, 1) := by decide +kernel
theorem dX10_keepsAct_0 : decode cX10_keepsAct 0 = .ok (.aload_n 0, 1) := by decide +kernel
theorem dX10_keepsAct_1 : decode cX10_keepsAct 1 = .ok (.getfield 279, 3) := by decide +kernel
theorem dX10_keepsAct_4 : decode cX10_keepsAct 4 = .ok (.bipush 20, 2) := by decide +kernel
theorem dX10_keepsAct_6 : decode cX10_keepsAct 6 = .ok (.if_icmp .ne 44, 3) := by decide +kernel
theorem dX10_keepsAct_9 : decode cX10_keepsAct 9 = .ok (.bipush 94, 2) := by decide +kernel
theorem dX10_keepsAct_11 : decode cX10_keepsAct 11 = .ok (.istore_n 1, 1) := by decide +kernel
theorem dX10_keepsAct_12 : decode cX10_keepsAct 12 = .ok (.iload_n 1, 1) := by decide +kernel
theorem dX10_keepsAct_13 : decode cX10_keepsAct 13 = .ok (.sipush 1880, 3) := by decide +kernel
theorem dX10_keepsAct_16 : decode cX10_keepsAct 16 = .ok (.if_icmp .ge 24, 3) := by decide +kernel
theorem dX10_keepsAct_19 : decode cX10_keepsAct 19 = .ok (.aload_n 0, 1) := by decide +kernel
theorem dX10_keepsAct_20 : decode cX10_keepsAct 20 = .ok (.getfield 48, 3) := by decide +kernel
theorem dX10_keepsAct_23 : decode cX10_keepsAct 23 = .ok (.iload_n 1, 1) := by decide +kernel
theorem dX10_keepsAct_24 : decode cX10_keepsAct 24 = .ok (.bipush 94, 2) := by decide +kernel
theorem dX10_keepsAct_26 : decode cX10_keepsAct 26 = .ok (.isub, 1) := by decide +kernel
theorem dX10_keepsAct_27 : decode cX10_keepsAct 27 = .ok (.aload_n 0, 1) := by decide +kernel
theorem dX10_keepsAct_28 : decode cX10_keepsAct 28 = .ok (.getfield 48, 3) := by decide +kernel
theorem dX10_keepsAct_31 : decode cX10_keepsAct 31 = .ok (.iload_n 1, 1) := by decide +kernel
theorem dX10_keepsAct_32 : decode cX10_keepsAct 32 = .ok (.iaload, 1) := by decide +kernel
theorem dX10_keepsAct_33 : decode cX10_keepsAct 33 = .ok (.iastore, 1) := by decide +kernel
theorem dX10_keepsAct_34 : decode cX10_keepsAct 34 = .ok (.iinc 1 1, 3) := by decide +kernel
theorem dX10_keepsAct_37 : decode cX10_keepsAct 37 = .ok (.goto (-25), 3) := by decide +kernel
theorem dX10_keepsAct_40 : decode cX10_keepsAct 40 = .ok (.aload_n 0, 1) := by decide +kernel
theorem dX10_keepsAct_41 : decode cX10_keepsAct 41 = .ok (.dup, 1) := by decide +kernel
theorem dX10_keepsAct_42 : decode cX10_keepsAct 42 = .ok (.getfield 279, 3) := by decide +kernel
theorem dX10_keepsAct_45 : decode cX10_keepsAct 45 = .ok (.iconst 1, 1) := by decide +kernel
theorem dX10_keepsAct_46 : decode cX10_keepsAct 46 = .ok (.isub, 1) := by decide +kernel
theorem dX10_keepsAct_47 : decode cX10_keepsAct 47 = .ok (.putfield 279, 3) := by decide +kernel
theorem dX10_keepsAct_50 : decode cX10_keepsAct 50 = .ok (.iconst 0, 1) := by decide +kernel
theorem dX10_keepsAct_51 : decode cX10_keepsAct 51 = .ok (.istore_n 1, 1) := by decide +kernel
theorem dX10_keepsAct_52 : decode cX10_keepsAct 52 = .ok (.iload_n 1, 1) := by decide +kernel
theorem dX10_keepsAct_53 : decode cX10_keepsAct 53 = .ok (.bipush 94, 2) := by decide +kernel
theorem dX10_keepsAct_55 : decode cX10_keepsAct 55 = .ok (.if_icmp .ge 29, 3) := by decide +kernel
theorem dX10_keepsAct_58 : decode cX10_keepsAct 58 = .ok (.aload_n 0, 1) := by decide +kernel
theorem dX10_keepsAct_59 : decode cX10_keepsAct 59 = .ok (.getfield 48, 3) := by decide +kernel
theorem dX10_keepsAct_62 : decode cX10_keepsAct 62 = .ok (.bipush 94, 2) := by decide +kernel
theorem dX10_keepsAct_64 : decode cX10_keepsAct 64 = .ok (.aload_n 0, 1) := by decide +kernel
theorem dX10_keepsAct_65 : decode cX10_keepsAct 65 = .ok (.getfield 279, 3) := by decide +kernel
theorem dX10_keepsAct_68 : decode cX10_keepsAct 68 = .ok (.imul, 1) := by decide +kernel
theorem dX10_keepsAct_69 : decode cX10_keepsAct 69 = .ok (.iload_n 1, 1) := by decide +kernel
theorem dX10_keepsAct_70 : decode cX10_keepsAct 70 = .ok (.iadd, 1) := by decide +kernel
theorem dX10_keepsAct_71 : decode cX10_keepsAct 71 = .ok (.aload_n 0, 1) := by decide +kernel
theorem dX10_keepsAct_72 : decode cX10_keepsAct 72 = .ok (.getfield 39, 3) := by decide +kernel
theorem dX10_keepsAct_75 : decode cX10_keepsAct 75 = .ok (.iload_n 1, 1) := by decide +kernel
theorem dX10_keepsAct_76 : decode cX10_keepsAct 76 = .ok (.iaload, 1) := by decide +kernel
theorem dX10_keepsAct_77 : decode cX10_keepsAct 77 = .ok (.iastore, 1) := by decide +kernel
theorem dX10_keepsAct_78 : decode cX10_keepsAct 78 = .ok (.iinc 1 1, 3) := by decide +kernel
theorem dX10_keepsAct_81 : decode cX10_keepsAct 81 = .ok (.goto (-29), 3) := by decide +kernel
theorem dX10_keepsAct_84 : decode cX10_keepsAct 84 = .ok (.aload_n 0, 1) := by decide +kernel
theorem dX10_keepsAct_85 : decode cX10_keepsAct 85 = .ok (.dup, 1) := by decide +kernel
theorem dX10_keepsAct_86 : decode cX10_keepsAct 86 = .ok (.getfield 279, 3) := by decide +kernel
theorem dX10_keepsAct_89 : decode cX10_keepsAct 89 = .ok (.iconst 1, 1) := by decide +kernel
theorem dX10_keepsAct_90 : decode cX10_keepsAct 90 = .ok (.iadd, 1) := by decide +kernel
theorem dX10_keepsAct_91 : decode cX10_keepsAct 91 = .ok (.putfield 279, 3) := by decide +kernel
theorem dX10_keepsAct_94 : decode cX10_keepsAct 94 = .ok (.return_, 1) := by decide +kernel
theorem dX10_undo_0 : decode cX10_undo 0 = .ok (.aload_n 0, 1) := by decide +kernel
theorem dX10_undo_1 : decode cX10_undo 1 = .ok (.getfield 279, 3) := by decide +kernel
theorem dX10_undo_4 : decode cX10_undo 4 = .ok (.ifCond .ne 5, 3) := by decide +kernel
theorem dX10_undo_7 : decode cX10_undo 7 = .ok (.iconst (-1), 1) := by decide +kernel
theorem dX10_undo_8 : decode cX10_undo 8 = .ok (.ireturn, 1) := by decide +kernel
theorem dX10_undo_9 : decode cX10_undo 9 = .ok (.aload_n 0, 1) := by decide +kernel
theorem dX10_undo_10 : decode cX10_undo 10 = .ok (.dup, 1) := by decide +kernel
theorem dX10_undo_11 : decode cX10_undo 11 = .ok (.getfield 279, 3) := by decide +kernel
theorem dX10_undo_14 : decode cX10_undo 14 = .ok (.iconst 1, 1) := by decide +kernel
theorem dX10_undo_15 : decode cX10_undo 15 = .ok (.isub, 1) := by decide +kernel
theorem dX10_undo_16 : decode cX10_undo 16 = .ok (.putfield 279, 3) := by decide +kernel
theorem dX10_undo_19 : decode cX10_undo 19 = .ok (.iconst 0, 1) := by decide +kernel
theorem dX10_undo_20 : decode cX10_undo 20 = .ok (.istore_n 1, 1) := by decide +kernel
theorem dX10_undo_21 : decode cX10_undo 21 = .ok (.iload_n 1, 1) := by decide +kernel
theorem dX10_undo_22 : decode cX10_undo 22 = .ok (.bipush 94, 2) := by decide +kernel
theorem dX10_undo_24 : decode cX10_undo 24 = .ok (.if_icmp .ge 29, 3) := by decide +kernel
theorem dX10_undo_27 : decode cX10_undo 27 = .ok (.aload_n 0, 1) := by decide +kernel
theorem dX10_undo_28 : decode cX10_undo 28 = .ok (.getfield 39, 3) := by decide +kernel
theorem dX10_undo_31 : decode cX10_undo 31 = .ok (.iload_n 1, 1) := by decide +kernel
theorem dX10_undo_32 : decode cX10_undo 32 = .ok (.aload_n 0, 1) := by decide +kernel
theorem dX10_undo_33 : decode cX10_undo 33 = .ok (.getfield 48, 3) := by decide +kernel
theorem dX10_undo_36 : decode cX10_undo 36 = .ok (.bipush 94, 2) := by decide +kernel
theorem dX10_undo_38 : decode cX10_undo 38 = .ok (.aload_n 0, 1) := by decide +kernel
theorem dX10_undo_39 : decode cX10_undo 39 = .ok (.getfield 279, 3) := by decide +kernel
theorem dX10_undo_42 : decode cX10_undo 42 = .ok (.imul, 1) := by decide +kernel
theorem dX10_undo_43 : decode cX10_undo 43 = .ok (.iload_n 1, 1) := by decide +kernel
theorem dX10_undo_44 : decode cX10_undo 44 = .ok (.iadd, 1) := by decide +kernel
theorem dX10_undo_45 : decode cX10_undo 45 = .ok (.iaload, 1) := by decide +kernel
theorem dX10_undo_46 : decode cX10_undo 46 = .ok (.iastore, 1) := by decide +kernel
theorem dX10_undo_47 : decode cX10_undo 47 = .ok (.iinc 1 1, 3) := by decide +kernel
theorem dX10_undo_50 : decode cX10_undo 50 = .ok (.goto (-29), 3) := by decide +kernel
theorem dX10_undo_53 : decode cX10_undo 53 = .ok (.aload_n 0, 1) := by decide +kernel
theorem dX10_undo_54 : decode cX10_undo 54 = .ok (.getfield 279, 3) := by decide +kernel
theorem dX10_undo_57 : decode cX10_undo 57 = .ok (.ireturn, 1) := by decide +kernel
theorem dX10_canCross_0 : decode cX10_canCross 0 = .ok (.aload_n 0, 1) := by decide +kernel
theorem dX10_canCross_1 : decode cX10_canCross 1 = .ok (.iload_n 2, 1) := by decide +kernel
theorem dX10_canCross_2 : decode cX10_canCross 2 = .ok (.aload_n 0, 1) := by decide +kernel
theorem dX10_canCross_3 : decode cX10_canCross 3 = .ok (.iload_n 1, 1) := by decide +kernel
theorem dX10_canCross_4 : decode cX10_canCross 4 = .ok (.iconst 0, 1) := by decide +kernel
theorem dX10_canCross_5 : decode cX10_canCross 5 = .ok (.invokevirtual 307, 3) := by decide +kernel
theorem dX10_canCross_8 : decode cX10_canCross 8 = .ok (.invokevirtual 336, 3) := by decide +kernel
theorem dX10_canCross_11 : decode cX10_canCross 11 = .ok (.ifCond .lt 16, 3) := by decide +kernel
theorem dX10_canCross_14 : decode cX10_canCross 14 = .ok (.aload_n 0, 1) := by decide +kernel
theorem dX10_canCross_15 : decode cX10_canCross 15 = .ok (.iload_n 1, 1) := by decide +kernel
theorem dX10_canCross_16 : decode cX10_canCross 16 = .ok (.iload_n 2, 1) := by decide +kernel
theorem dX10_canCross_17 : decode cX10_canCross 17 = .ok (.invokevirtual 304, 3) := by decide +kernel
theorem dX10_canCross_20 : decode cX10_canCross 20 = .ok (.ifCond .le 7, 3) := by decide +kernel
theorem dX10_canCross_23 : decode cX10_canCross 23 = .ok (.iconst 1, 1) := by decide +kernel
theorem dX10_canCross_24 : decode cX10_canCross 24 = .ok (.goto 4, 3) := by decide +kernel
theorem dX10_canCross_27 : decode cX10_canCross 27 = .ok (.iconst 0, 1) := by decide +kernel
theorem dX10_canCross_28 : decode cX10_canCross 28 = .ok (.ireturn, 1) := by decide +kernel
theorem dX10_crosses_0 : decode cX10_crosses 0 = .ok (.aload_n 0, 1) := by decide +kernel
theorem dX10_crosses_1 : decode cX10_crosses 1 = .ok (.getfield 39, 3) := by decide +kernel
theorem dX10_crosses_4 : decode cX10_crosses 4 = .ok (.bipush 10, 2) := by decide +kernel
theorem dX10_crosses_6 : decode cX10_crosses 6 = .ok (.iconst 3, 1) := by decide +kernel
theorem dX10_crosses_7 : decode cX10_crosses 7 = .ok (.iload_n 1, 1) := by decide +kernel
theorem dX10_crosses_8 : decode cX10_crosses 8 = .ok (.imul, 1) := by decide +kernel
theorem dX10_crosses_9 : decode cX10_crosses 9 = .ok (.iadd, 1) := by decide +kernel
theorem dX10_crosses_10 : decode cX10_crosses 10 = .ok (.aload_n 0, 1) := by decide +kernel
theorem dX10_crosses_11 : decode cX10_crosses 11 = .ok (.iload_n 2, 1) := by decide +kernel
theorem dX10_crosses_12 : decode cX10_crosses 12 = .ok (.aload_n 0, 1) := by decide +kernel
theorem dX10_crosses_13 : decode cX10_crosses 13 = .ok (.iload_n 1, 1) := by decide +kernel
theorem dX10_crosses_14 : decode cX10_crosses 14 = .ok (.iconst 0, 1) := by decide +kernel
theorem dX10_crosses_15 : decode cX10_crosses 15 = .ok (.invokevirtual 307, 3) := by decide +kernel
theorem dX10_crosses_18 : decode cX10_crosses 18 = .ok (.invokevirtual 336, 3) := by decide +kernel
theorem dX10_crosses_21 : decode cX10_crosses 21 = .ok (.iastore, 1) := by decide +kernel
theorem dX10_crosses_22 : decode cX10_crosses 22 = .ok (.aload_n 0, 1) := by decide +kernel
theorem dX10_crosses_23 : decode cX10_crosses 23 = .ok (.getfield 39, 3) := by decide +kernel
theorem dX10_crosses_26 : decode cX10_crosses 26 = .ok (.bipush 22, 2) := by decide +kernel
theorem dX10_crosses_28 : decode cX10_crosses 28 = .ok (.bipush 9, 2) := by decide +kernel
theorem dX10_crosses_30 : decode cX10_crosses 30 = .ok (.iload_n 1, 1) := by decide +kernel
theorem dX10_crosses_31 : decode cX10_crosses 31 = .ok (.imul, 1) := by decide +kernel
theorem dX10_crosses_32 : decode cX10_crosses 32 = .ok (.iadd, 1) := by decide +kernel
theorem dX10_crosses_33 : decode cX10_crosses 33 = .ok (.iload_n 2, 1) := by decide +kernel
theorem dX10_crosses_34 : decode cX10_crosses 34 = .ok (.iadd, 1) := by decide +kernel
theorem dX10_crosses_35 : decode cX10_crosses 35 = .ok (.dup2, 1) := by decide +kernel
theorem dX10_crosses_36 : decode cX10_crosses 36 = .ok (.iaload, 1) := by decide +kernel
theorem dX10_crosses_37 : decode cX10_crosses 37 = .ok (.iconst 1, 1) := by decide +kernel
theorem dX10_crosses_38 : decode cX10_crosses 38 = .ok (.iadd, 1) := by decide +kernel
theorem dX10_crosses_39 : decode cX10_crosses 39 = .ok (.iastore, 1) := by decide +kernel
theorem dX10_crosses_40 : decode cX10_crosses 40 = .ok (.aload_n 0, 1) := by decide +kernel
theorem dX10_crosses_41 : decode cX10_crosses 41 = .ok (.getfield 39, 3) := by decide +kernel
theorem dX10_crosses_44 : decode cX10_crosses 44 = .ok (.bipush 58, 2) := by decide +kernel
theorem dX10_crosses_46 : decode cX10_crosses 46 = .ok (.bipush 9, 2) := by decide +kernel
theorem dX10_crosses_48 : decode cX10_crosses 48 = .ok (.iload_n 1, 1) := by decide +kernel
theorem dX10_crosses_49 : decode cX10_crosses 49 = .ok (.imul, 1) := by decide +kernel
theorem dX10_crosses_50 : decode cX10_crosses 50 = .ok (.iadd, 1) := by decide +kernel
theorem dX10_crosses_51 : decode cX10_crosses 51 = .ok (.iload_n 2, 1) := by decide +kernel
theorem dX10_crosses_52 : decode cX10_crosses 52 = .ok (.iadd, 1) := by decide +kernel
theorem dX10_crosses_53 : decode cX10_crosses 53 = .ok (.dup2, 1) := by decide +kernel
theorem dX10_crosses_54 : decode cX10_crosses 54 = .ok (.iaload, 1) := by decide +kernel
theorem dX10_crosses_55 : decode cX10_crosses 55 = .ok (.iconst 1, 1) := by decide +kernel
theorem dX10_crosses_56 : decode cX10_crosses 56 = .ok (.iadd, 1) := by decide +kernel
theorem dX10_crosses_57 : decode cX10_crosses 57 = .ok (.iastore, 1) := by decide +kernel
theorem dX10_crosses_58 : decode cX10_crosses 58 = .ok (.return_, 1) := by decide +kernel
theorem dX10_cross_0 : decode cX10_cross 0 = .ok (.aload_n 0, 1) := by decide +kernel
theorem dX10_cross_1 : decode cX10_cross 1 = .ok (.iload_n 1, 1) := by decide +kernel
theorem dX10_cross_2 : decode cX10_cross 2 = .ok (.invokevirtual 316, 3) := by decide +kernel
theorem dX10_cross_5 : decode cX10_cross 5 = .ok (.ifCond .eq 20, 3) := by decide +kernel
theorem dX10_cross_8 : decode cX10_cross 8 = .ok (.aload_n 0, 1) := by decide +kernel
theorem dX10_cross_9 : decode cX10_cross 9 = .ok (.iload_n 2, 1) := by decide +kernel
theorem dX10_cross_10 : decode cX10_cross 10 = .ok (.invokevirtual 328, 3) := by decide +kernel
theorem dX10_cross_13 : decode cX10_cross 13 = .ok (.ifCond .eq 12, 3) := by decide +kernel
theorem dX10_cross_16 : decode cX10_cross 16 = .ok (.aload_n 0, 1) := by decide +kernel
theorem dX10_cross_17 : decode cX10_cross 17 = .ok (.iload_n 1, 1) := by decide +kernel
theorem dX10_cross_18 : decode cX10_cross 18 = .ok (.iload_n 2, 1) := by decide +kernel
theorem dX10_cross_19 : decode cX10_cross 19 = .ok (.invokevirtual 339, 3) := by decide +kernel
theorem dX10_cross_22 : decode cX10_cross 22 = .ok (.ifCond .ne 5, 3) := by decide +kernel
theorem dX10_cross_25 : decode cX10_cross 25 = .ok (.iconst (-1), 1) := by decide +kernel
theorem dX10_cross_26 : decode cX10_cross 26 = .ok (.ireturn, 1) := by decide +kernel
theorem dX10_cross_27 : decode cX10_cross 27 = .ok (.aload_n 0, 1) := by decide +kernel
theorem dX10_cross_28 : decode cX10_cross 28 = .ok (.invokevirtual 342, 3) := by decide +kernel
theorem dX10_cross_31 : decode cX10_cross 31 = .ok (.aload_n 0, 1) := by decide +kernel
theorem dX10_cross_32 : decode cX10_cross 32 = .ok (.iload_n 1, 1) := by decide +kernel
theorem dX10_cross_33 : decode cX10_cross 33 = .ok (.iload_n 2, 1) := by decide +kernel
theorem dX10_cross_34 : decode cX10_cross 34 = .ok (.invokevirtual 345, 3) := by decide +kernel
theorem dX10_cross_37 : decode cX10_cross 37 = .ok (.aload_n 0, 1) := by decide +kernel
theorem dX10_cross_38 : decode cX10_cross 38 = .ok (.iload_n 1, 1) := by decide +kernel
theorem dX10_cross_39 : decode cX10_cross 39 = .ok (.iconst 0, 1) := by decide +kernel
theorem dX10_cross_40 : decode cX10_cross 40 = .ok (.invokevirtual 307, 3) := by decide +kernel
theorem dX10_cross_43 : decode cX10_cross 43 = .ok (.ireturn, 1) := by decide +kernel
theorem dX10_sail_0 : decode cX10_sail 0 = .ok (.aload_n 0, 1) := by decide +kernel
theorem dX10_sail_1 : decode cX10_sail 1 = .ok (.iload_n 1, 1) := by decide +kernel
theorem dX10_sail_2 : decode cX10_sail 2 = .ok (.invokevirtual 316, 3) := by decide +kernel
theorem dX10_sail_5 : decode cX10_sail 5 = .ok (.ifCond .eq 24, 3) := by decide +kernel
theorem dX10_sail_8 : decode cX10_sail 8 = .ok (.iload_n 2, 1) := by decide +kernel
theorem dX10_sail_9 : decode cX10_sail 9 = .ok (.ifCond .lt 20, 3) := by decide +kernel
theorem dX10_sail_12 : decode cX10_sail 12 = .ok (.iload_n 2, 1) := by decide +kernel
theorem dX10_sail_13 : decode cX10_sail 13 = .ok (.aload_n 0, 1) := by decide +kernel
theorem dX10_sail_14 : decode cX10_sail 14 = .ok (.getfield 39, 3) := by decide +kernel
theorem dX10_sail_17 : decode cX10_sail 17 = .ok (.iconst 3, 1) := by decide +kernel
theorem dX10_sail_18 : decode cX10_sail 18 = .ok (.iaload, 1) := by decide +kernel
theorem dX10_sail_19 : decode cX10_sail 19 = .ok (.if_icmp .ge 10, 3) := by decide +kernel
theorem dX10_sail_22 : decode cX10_sail 22 = .ok (.aload_n 0, 1) := by decide +kernel
theorem dX10_sail_23 : decode cX10_sail 23 = .ok (.invokevirtual 348, 3) := by decide +kernel
theorem dX10_sail_26 : decode cX10_sail 26 = .ok (.ifCond .eq 5, 3) := by decide +kernel
theorem dX10_sail_29 : decode cX10_sail 29 = .ok (.iconst (-1), 1) := by decide +kernel
theorem dX10_sail_30 : decode cX10_sail 30 = .ok (.ireturn, 1) := by decide +kernel
theorem dX10_sail_31 : decode cX10_sail 31 = .ok (.aload_n 0, 1) := by decide +kernel
theorem dX10_sail_32 : decode cX10_sail 32 = .ok (.bipush 112, 2) := by decide +kernel
theorem dX10_sail_34 : decode cX10_sail 34 = .ok (.iconst 2, 1) := by decide +kernel
theorem dX10_sail_35 : decode cX10_sail 35 = .ok (.iload_n 2, 1) := by decide +kernel
theorem dX10_sail_36 : decode cX10_sail 36 = .ok (.imul, 1) := by decide +kernel
theorem dX10_sail_37 : decode cX10_sail 37 = .ok (.iadd, 1) := by decide +kernel
theorem dX10_sail_38 : decode cX10_sail 38 = .ok (.aload_n 0, 1) := by decide +kernel
theorem dX10_sail_39 : decode cX10_sail 39 = .ok (.iload_n 1, 1) := by decide +kernel
theorem dX10_sail_40 : decode cX10_sail 40 = .ok (.iconst 0, 1) := by decide +kernel
theorem dX10_sail_41 : decode cX10_sail 41 = .ok (.invokevirtual 307, 3) := by decide +kernel
theorem dX10_sail_44 : decode cX10_sail 44 = .ok (.invokevirtual 301, 3) := by decide +kernel
theorem dX10_sail_47 : decode cX10_sail 47 = .ok (.istore_n 3, 1) := by decide +kernel
theorem dX10_sail_48 : decode cX10_sail 48 = .ok (.iload_n 3, 1) := by decide +kernel
theorem dX10_sail_49 : decode cX10_sail 49 = .ok (.ifCond .ge 5, 3) := by decide +kernel
theorem dX10_sail_52 : decode cX10_sail 52 = .ok (.iconst (-1), 1) := by decide +kernel
theorem dX10_sail_53 : decode cX10_sail 53 = .ok (.ireturn, 1) := by decide +kernel
theorem dX10_sail_54 : decode cX10_sail 54 = .ok (.aload_n 0, 1) := by decide +kernel
theorem dX10_sail_55 : decode cX10_sail 55 = .ok (.invokevirtual 342, 3) := by decide +kernel
theorem dX10_sail_58 : decode cX10_sail 58 = .ok (.aload_n 0, 1) := by decide +kernel
theorem dX10_sail_59 : decode cX10_sail 59 = .ok (.getfield 39, 3) := by decide +kernel
theorem dX10_sail_62 : decode cX10_sail 62 = .ok (.bipush 10, 2) := by decide +kernel
theorem dX10_sail_64 : decode cX10_sail 64 = .ok (.iconst 3, 1) := by decide +kernel
theorem dX10_sail_65 : decode cX10_sail 65 = .ok (.iload_n 1, 1) := by decide +kernel
theorem dX10_sail_66 : decode cX10_sail 66 = .ok (.imul, 1) := by decide +kernel
theorem dX10_sail_67 : decode cX10_sail 67 = .ok (.iadd, 1) := by decide +kernel
theorem dX10_sail_68 : decode cX10_sail 68 = .ok (.iload_n 3, 1) := by decide +kernel
theorem dX10_sail_69 : decode cX10_sail 69 = .ok (.iastore, 1) := by decide +kernel
theorem dX10_sail_70 : decode cX10_sail 70 = .ok (.iload_n 3, 1) := by decide +kernel
theorem dX10_sail_71 : decode cX10_sail 71 = .ok (.ireturn, 1) := by decide +kernel
theorem dX10_carry_0 : decode cX10_carry 0 = .ok (.aload_n 0, 1) := by decide +kernel
theorem dX10_carry_1 : decode cX10_carry 1 = .ok (.iload_n 1, 1) := by decide +kernel
theorem dX10_carry_2 : decode cX10_carry 2 = .ok (.invokevirtual 316, 3) := by decide +kernel
theorem dX10_carry_5 : decode cX10_carry 5 = .ok (.ifCond .eq 24, 3) := by decide +kernel
theorem dX10_carry_8 : decode cX10_carry 8 = .ok (.aload_n 0, 1) := by decide +kernel
theorem dX10_carry_9 : decode cX10_carry 9 = .ok (.iload_n 2, 1) := by decide +kernel
theorem dX10_carry_10 : decode cX10_carry 10 = .ok (.invokevirtual 316, 3) := by decide +kernel
theorem dX10_carry_13 : decode cX10_carry 13 = .ok (.ifCond .eq 16, 3) := by decide +kernel
theorem dX10_carry_16 : decode cX10_carry 16 = .ok (.aload_n 0, 1) := by decide +kernel
theorem dX10_carry_17 : decode cX10_carry 17 = .ok (.iload_n 3, 1) := by decide +kernel
theorem dX10_carry_18 : decode cX10_carry 18 = .ok (.invokevirtual 328, 3) := by decide +kernel
theorem dX10_carry_21 : decode cX10_carry 21 = .ok (.ifCond .eq 8, 3) := by decide +kernel
theorem dX10_carry_24 : decode cX10_carry 24 = .ok (.iload_n 1, 1) := by decide +kernel
theorem dX10_carry_25 : decode cX10_carry 25 = .ok (.iload_n 2, 1) := by decide +kernel
theorem dX10_carry_26 : decode cX10_carry 26 = .ok (.if_icmp .ne 5, 3) := by decide +kernel
theorem dX10_carry_29 : decode cX10_carry 29 = .ok (.iconst (-1), 1) := by decide +kernel
theorem dX10_carry_30 : decode cX10_carry 30 = .ok (.ireturn, 1) := by decide +kernel
theorem dX10_carry_31 : decode cX10_carry 31 = .ok (.aload_n 0, 1) := by decide +kernel
theorem dX10_carry_32 : decode cX10_carry 32 = .ok (.iload_n 1, 1) := by decide +kernel
theorem dX10_carry_33 : decode cX10_carry 33 = .ok (.iconst 0, 1) := by decide +kernel
theorem dX10_carry_34 : decode cX10_carry 34 = .ok (.invokevirtual 307, 3) := by decide +kernel
theorem dX10_carry_37 : decode cX10_carry 37 = .ok (.aload_n 0, 1) := by decide +kernel
theorem dX10_carry_38 : decode cX10_carry 38 = .ok (.iload_n 2, 1) := by decide +kernel
theorem dX10_carry_39 : decode cX10_carry 39 = .ok (.iconst 0, 1) := by decide +kernel
theorem dX10_carry_40 : decode cX10_carry 40 = .ok (.invokevirtual 307, 3) := by decide +kernel
theorem dX10_carry_43 : decode cX10_carry 43 = .ok (.if_icmp .ne 12, 3) := by decide +kernel
theorem dX10_carry_46 : decode cX10_carry 46 = .ok (.aload_n 0, 1) := by decide +kernel
theorem dX10_carry_47 : decode cX10_carry 47 = .ok (.iload_n 1, 1) := by decide +kernel
theorem dX10_carry_48 : decode cX10_carry 48 = .ok (.iload_n 3, 1) := by decide +kernel
theorem dX10_carry_49 : decode cX10_carry 49 = .ok (.invokevirtual 339, 3) := by decide +kernel
theorem dX10_carry_52 : decode cX10_carry 52 = .ok (.ifCond .ne 5, 3) := by decide +kernel
theorem dX10_carry_55 : decode cX10_carry 55 = .ok (.iconst (-1), 1) := by decide +kernel
theorem dX10_carry_56 : decode cX10_carry 56 = .ok (.ireturn, 1) := by decide +kernel
theorem dX10_carry_57 : decode cX10_carry 57 = .ok (.aload_n 0, 1) := by decide +kernel
theorem dX10_carry_58 : decode cX10_carry 58 = .ok (.invokevirtual 342, 3) := by decide +kernel
theorem dX10_carry_61 : decode cX10_carry 61 = .ok (.aload_n 0, 1) := by decide +kernel
theorem dX10_carry_62 : decode cX10_carry 62 = .ok (.iload_n 1, 1) := by decide +kernel
theorem dX10_carry_63 : decode cX10_carry 63 = .ok (.iload_n 3, 1) := by decide +kernel
theorem dX10_carry_64 : decode cX10_carry 64 = .ok (.invokevirtual 345, 3) := by decide +kernel
theorem dX10_carry_67 : decode cX10_carry 67 = .ok (.aload_n 0, 1) := by decide +kernel
theorem dX10_carry_68 : decode cX10_carry 68 = .ok (.getfield 39, 3) := by decide +kernel
theorem dX10_carry_71 : decode cX10_carry 71 = .ok (.bipush 10, 2) := by decide +kernel
theorem dX10_carry_73 : decode cX10_carry 73 = .ok (.iconst 3, 1) := by decide +kernel
theorem dX10_carry_74 : decode cX10_carry 74 = .ok (.iload_n 2, 1) := by decide +kernel
theorem dX10_carry_75 : decode cX10_carry 75 = .ok (.imul, 1) := by decide +kernel
theorem dX10_carry_76 : decode cX10_carry 76 = .ok (.iadd, 1) := by decide +kernel
theorem dX10_carry_77 : decode cX10_carry 77 = .ok (.aload_n 0, 1) := by decide +kernel
theorem dX10_carry_78 : decode cX10_carry 78 = .ok (.iload_n 1, 1) := by decide +kernel
theorem dX10_carry_79 : decode cX10_carry 79 = .ok (.iconst 0, 1) := by decide +kernel
theorem dX10_carry_80 : decode cX10_carry 80 = .ok (.invokevirtual 307, 3) := by decide +kernel
theorem dX10_carry_83 : decode cX10_carry 83 = .ok (.iastore, 1) := by decide +kernel
theorem dX10_carry_84 : decode cX10_carry 84 = .ok (.aload_n 0, 1) := by decide +kernel
theorem dX10_carry_85 : decode cX10_carry 85 = .ok (.iload_n 1, 1) := by decide +kernel
theorem dX10_carry_86 : decode cX10_carry 86 = .ok (.iconst 0, 1) := by decide +kernel
theorem dX10_carry_87 : decode cX10_carry 87 = .ok (.invokevirtual 307, 3) := by decide +kernel
theorem dX10_carry_90 : decode cX10_carry 90 = .ok (.ireturn, 1) := by decide +kernel
theorem dX10_forgets_0 : decode cX10_forgets 0 = .ok (.iconst 0, 1) := by decide +kernel
theorem dX10_forgets_1 : decode cX10_forgets 1 = .ok (.istore_n 2, 1) := by decide +kernel
theorem dX10_forgets_2 : decode cX10_forgets 2 = .ok (.iload_n 2, 1) := by decide +kernel
theorem dX10_forgets_3 : decode cX10_forgets 3 = .ok (.aload_n 0, 1) := by decide +kernel
theorem dX10_forgets_4 : decode cX10_forgets 4 = .ok (.getfield 39, 3) := by decide +kernel
theorem dX10_forgets_7 : decode cX10_forgets 7 = .ok (.iconst 4, 1) := by decide +kernel
theorem dX10_forgets_8 : decode cX10_forgets 8 = .ok (.iaload, 1) := by decide +kernel
theorem dX10_forgets_9 : decode cX10_forgets 9 = .ok (.if_icmp .ge 39, 3) := by decide +kernel
theorem dX10_forgets_12 : decode cX10_forgets 12 = .ok (.aload_n 0, 1) := by decide +kernel
theorem dX10_forgets_13 : decode cX10_forgets 13 = .ok (.getfield 39, 3) := by decide +kernel
theorem dX10_forgets_16 : decode cX10_forgets 16 = .ok (.bipush 22, 2) := by decide +kernel
theorem dX10_forgets_18 : decode cX10_forgets 18 = .ok (.bipush 9, 2) := by decide +kernel
theorem dX10_forgets_20 : decode cX10_forgets 20 = .ok (.iload_n 2, 1) := by decide +kernel
theorem dX10_forgets_21 : decode cX10_forgets 21 = .ok (.imul, 1) := by decide +kernel
theorem dX10_forgets_22 : decode cX10_forgets 22 = .ok (.iadd, 1) := by decide +kernel
theorem dX10_forgets_23 : decode cX10_forgets 23 = .ok (.iload_n 1, 1) := by decide +kernel
theorem dX10_forgets_24 : decode cX10_forgets 24 = .ok (.iadd, 1) := by decide +kernel
theorem dX10_forgets_25 : decode cX10_forgets 25 = .ok (.iconst 0, 1) := by decide +kernel
theorem dX10_forgets_26 : decode cX10_forgets 26 = .ok (.iastore, 1) := by decide +kernel
theorem dX10_forgets_27 : decode cX10_forgets 27 = .ok (.aload_n 0, 1) := by decide +kernel
theorem dX10_forgets_28 : decode cX10_forgets 28 = .ok (.getfield 39, 3) := by decide +kernel
theorem dX10_forgets_31 : decode cX10_forgets 31 = .ok (.bipush 58, 2) := by decide +kernel
theorem dX10_forgets_33 : decode cX10_forgets 33 = .ok (.bipush 9, 2) := by decide +kernel
theorem dX10_forgets_35 : decode cX10_forgets 35 = .ok (.iload_n 2, 1) := by decide +kernel
theorem dX10_forgets_36 : decode cX10_forgets 36 = .ok (.imul, 1) := by decide +kernel
theorem dX10_forgets_37 : decode cX10_forgets 37 = .ok (.iadd, 1) := by decide +kernel
theorem dX10_forgets_38 : decode cX10_forgets 38 = .ok (.iload_n 1, 1) := by decide +kernel
theorem dX10_forgets_39 : decode cX10_forgets 39 = .ok (.iadd, 1) := by decide +kernel
theorem dX10_forgets_40 : decode cX10_forgets 40 = .ok (.iconst 0, 1) := by decide +kernel
theorem dX10_forgets_41 : decode cX10_forgets 41 = .ok (.iastore, 1) := by decide +kernel
theorem dX10_forgets_42 : decode cX10_forgets 42 = .ok (.iinc 2 1, 3) := by decide +kernel
theorem dX10_forgets_45 : decode cX10_forgets 45 = .ok (.goto (-43), 3) := by decide +kernel
theorem dX10_forgets_48 : decode cX10_forgets 48 = .ok (.return_, 1) := by decide +kernel
theorem dX10_rebuild_0 : decode cX10_rebuild 0 = .ok (.aload_n 0, 1) := by decide +kernel
theorem dX10_rebuild_1 : decode cX10_rebuild 1 = .ok (.iload_n 1, 1) := by decide +kernel
theorem dX10_rebuild_2 : decode cX10_rebuild 2 = .ok (.invokevirtual 328, 3) := by decide +kernel
theorem dX10_rebuild_5 : decode cX10_rebuild 5 = .ok (.ifCond .eq 11, 3) := by decide +kernel
theorem dX10_rebuild_8 : decode cX10_rebuild 8 = .ok (.aload_n 0, 1) := by decide +kernel
theorem dX10_rebuild_9 : decode cX10_rebuild 9 = .ok (.iload_n 1, 1) := by decide +kernel
theorem dX10_rebuild_10 : decode cX10_rebuild 10 = .ok (.invokevirtual 333, 3) := by decide +kernel
theorem dX10_rebuild_13 : decode cX10_rebuild 13 = .ok (.ifCond .ne 5, 3) := by decide +kernel
theorem dX10_rebuild_16 : decode cX10_rebuild 16 = .ok (.iconst (-1), 1) := by decide +kernel
theorem dX10_rebuild_17 : decode cX10_rebuild 17 = .ok (.ireturn, 1) := by decide +kernel
theorem dX10_rebuild_18 : decode cX10_rebuild 18 = .ok (.aload_n 0, 1) := by decide +kernel
theorem dX10_rebuild_19 : decode cX10_rebuild 19 = .ok (.invokevirtual 342, 3) := by decide +kernel
theorem dX10_rebuild_22 : decode cX10_rebuild 22 = .ok (.aload_n 0, 1) := by decide +kernel
theorem dX10_rebuild_23 : decode cX10_rebuild 23 = .ok (.iload_n 1, 1) := by decide +kernel
theorem dX10_rebuild_24 : decode cX10_rebuild 24 = .ok (.invokevirtual 333, 3) := by decide +kernel
theorem dX10_rebuild_27 : decode cX10_rebuild 27 = .ok (.istore_n 2, 1) := by decide +kernel
theorem dX10_rebuild_28 : decode cX10_rebuild 28 = .ok (.aload_n 0, 1) := by decide +kernel
theorem dX10_rebuild_29 : decode cX10_rebuild 29 = .ok (.iload_n 1, 1) := by decide +kernel
theorem dX10_rebuild_30 : decode cX10_rebuild 30 = .ok (.invokevirtual 351, 3) := by decide +kernel
theorem dX10_rebuild_33 : decode cX10_rebuild 33 = .ok (.iload_n 2, 1) := by decide +kernel
theorem dX10_rebuild_34 : decode cX10_rebuild 34 = .ok (.ireturn, 1) := by decide +kernel
theorem dX10_payAt_0 : decode cX10_payAt 0 = .ok (.iconst 0, 1) := by decide +kernel
theorem dX10_payAt_1 : decode cX10_payAt 1 = .ok (.istore 4, 2) := by decide +kernel
theorem dX10_payAt_3 : decode cX10_payAt 3 = .ok (.iconst 0, 1) := by decide +kernel
theorem dX10_payAt_4 : decode cX10_payAt 4 = .ok (.istore 5, 2) := by decide +kernel
theorem dX10_payAt_6 : decode cX10_payAt 6 = .ok (.iload 5, 2) := by decide +kernel
theorem dX10_payAt_8 : decode cX10_payAt 8 = .ok (.aload_n 0, 1) := by decide +kernel
theorem dX10_payAt_9 : decode cX10_payAt 9 = .ok (.getfield 39, 3) := by decide +kernel
theorem dX10_payAt_12 : decode cX10_payAt 12 = .ok (.iconst 5, 1) := by decide +kernel
theorem dX10_payAt_13 : decode cX10_payAt 13 = .ok (.iaload, 1) := by decide +kernel
theorem dX10_payAt_14 : decode cX10_payAt 14 = .ok (.if_icmp .ge 74, 3) := by decide +kernel
theorem dX10_payAt_17 : decode cX10_payAt 17 = .ok (.sipush 128, 3) := by decide +kernel
theorem dX10_payAt_20 : decode cX10_payAt 20 = .ok (.iconst 4, 1) := by decide +kernel
theorem dX10_payAt_21 : decode cX10_payAt 21 = .ok (.iload 5, 2) := by decide +kernel
theorem dX10_payAt_23 : decode cX10_payAt 23 = .ok (.imul, 1) := by decide +kernel
theorem dX10_payAt_24 : decode cX10_payAt 24 = .ok (.iadd, 1) := by decide +kernel
theorem dX10_payAt_25 : decode cX10_payAt 25 = .ok (.istore 6, 2) := by decide +kernel
theorem dX10_payAt_27 : decode cX10_payAt 27 = .ok (.iload 4, 2) := by decide +kernel
theorem dX10_payAt_29 : decode cX10_payAt 29 = .ok (.aload_n 0, 1) := by decide +kernel
theorem dX10_payAt_30 : decode cX10_payAt 30 = .ok (.getfield 39, 3) := by decide +kernel
theorem dX10_payAt_33 : decode cX10_payAt 33 = .ok (.iload 6, 2) := by decide +kernel
theorem dX10_payAt_35 : decode cX10_payAt 35 = .ok (.iaload, 1) := by decide +kernel
theorem dX10_payAt_36 : decode cX10_payAt 36 = .ok (.iload_n 1, 1) := by decide +kernel
theorem dX10_payAt_37 : decode cX10_payAt 37 = .ok (.if_icmp .ne 41, 3) := by decide +kernel
theorem dX10_payAt_40 : decode cX10_payAt 40 = .ok (.aload_n 0, 1) := by decide +kernel
theorem dX10_payAt_41 : decode cX10_payAt 41 = .ok (.getfield 39, 3) := by decide +kernel
theorem dX10_payAt_44 : decode cX10_payAt 44 = .ok (.iload 6, 2) := by decide +kernel
theorem dX10_payAt_46 : decode cX10_payAt 46 = .ok (.iconst 1, 1) := by decide +kernel
theorem dX10_payAt_47 : decode cX10_payAt 47 = .ok (.iadd, 1) := by decide +kernel
theorem dX10_payAt_48 : decode cX10_payAt 48 = .ok (.iaload, 1) := by decide +kernel
theorem dX10_payAt_49 : decode cX10_payAt 49 = .ok (.iload_n 2, 1) := by decide +kernel
theorem dX10_payAt_50 : decode cX10_payAt 50 = .ok (.if_icmp .ne 28, 3) := by decide +kernel
theorem dX10_payAt_53 : decode cX10_payAt 53 = .ok (.aload_n 0, 1) := by decide +kernel
theorem dX10_payAt_54 : decode cX10_payAt 54 = .ok (.getfield 39, 3) := by decide +kernel
theorem dX10_payAt_57 : decode cX10_payAt 57 = .ok (.iload 6, 2) := by decide +kernel
theorem dX10_payAt_59 : decode cX10_payAt 59 = .ok (.iconst 2, 1) := by decide +kernel
theorem dX10_payAt_60 : decode cX10_payAt 60 = .ok (.iadd, 1) := by decide +kernel
theorem dX10_payAt_61 : decode cX10_payAt 61 = .ok (.iaload, 1) := by decide +kernel
theorem dX10_payAt_62 : decode cX10_payAt 62 = .ok (.iload_n 3, 1) := by decide +kernel
theorem dX10_payAt_63 : decode cX10_payAt 63 = .ok (.if_icmp .ne 15, 3) := by decide +kernel
theorem dX10_payAt_66 : decode cX10_payAt 66 = .ok (.aload_n 0, 1) := by decide +kernel
theorem dX10_payAt_67 : decode cX10_payAt 67 = .ok (.getfield 39, 3) := by decide +kernel
theorem dX10_payAt_70 : decode cX10_payAt 70 = .ok (.iload 6, 2) := by decide +kernel
theorem dX10_payAt_72 : decode cX10_payAt 72 = .ok (.iconst 3, 1) := by decide +kernel
theorem dX10_payAt_73 : decode cX10_payAt 73 = .ok (.iadd, 1) := by decide +kernel
theorem dX10_payAt_74 : decode cX10_payAt 74 = .ok (.iaload, 1) := by decide +kernel
theorem dX10_payAt_75 : decode cX10_payAt 75 = .ok (.goto 4, 3) := by decide +kernel
theorem dX10_payAt_78 : decode cX10_payAt 78 = .ok (.iconst 0, 1) := by decide +kernel
theorem dX10_payAt_79 : decode cX10_payAt 79 = .ok (.iadd, 1) := by decide +kernel
theorem dX10_payAt_80 : decode cX10_payAt 80 = .ok (.istore 4, 2) := by decide +kernel
theorem dX10_payAt_82 : decode cX10_payAt 82 = .ok (.iinc 5 1, 3) := by decide +kernel
theorem dX10_payAt_85 : decode cX10_payAt 85 = .ok (.goto (-79), 3) := by decide +kernel
theorem dX10_payAt_88 : decode cX10_payAt 88 = .ok (.iload 4, 2) := by decide +kernel
theorem dX10_payAt_90 : decode cX10_payAt 90 = .ok (.ireturn, 1) := by decide +kernel
theorem dX10_passes_0 : decode cX10_passes 0 = .ok (.iconst 0, 1) := by decide +kernel
theorem dX10_passes_1 : decode cX10_passes 1 = .ok (.istore_n 1, 1) := by decide +kernel
theorem dX10_passes_2 : decode cX10_passes 2 = .ok (.iconst 0, 1) := by decide +kernel
theorem dX10_passes_3 : decode cX10_passes 3 = .ok (.istore_n 2, 1) := by decide +kernel
theorem dX10_passes_4 : decode cX10_passes 4 = .ok (.iload_n 2, 1) := by decide +kernel
theorem dX10_passes_5 : decode cX10_passes 5 = .ok (.aload_n 0, 1) := by decide +kernel
theorem dX10_passes_6 : decode cX10_passes 6 = .ok (.getfield 39, 3) := by decide +kernel
theorem dX10_passes_9 : decode cX10_passes 9 = .ok (.iconst 4, 1) := by decide +kernel
theorem dX10_passes_10 : decode cX10_passes 10 = .ok (.iaload, 1) := by decide +kernel
theorem dX10_passes_11 : decode cX10_passes 11 = .ok (.if_icmp .ge 49, 3) := by decide +kernel
theorem dX10_passes_14 : decode cX10_passes 14 = .ok (.aload_n 0, 1) := by decide +kernel
theorem dX10_passes_15 : decode cX10_passes 15 = .ok (.iload_n 2, 1) := by decide +kernel
theorem dX10_passes_16 : decode cX10_passes 16 = .ok (.aload_n 0, 1) := by decide +kernel
theorem dX10_passes_17 : decode cX10_passes 17 = .ok (.iload_n 2, 1) := by decide +kernel
theorem dX10_passes_18 : decode cX10_passes 18 = .ok (.iconst 0, 1) := by decide +kernel
theorem dX10_passes_19 : decode cX10_passes 19 = .ok (.invokevirtual 307, 3) := by decide +kernel
theorem dX10_passes_22 : decode cX10_passes 22 = .ok (.aload_n 0, 1) := by decide +kernel
theorem dX10_passes_23 : decode cX10_passes 23 = .ok (.getfield 39, 3) := by decide +kernel
theorem dX10_passes_26 : decode cX10_passes 26 = .ok (.bipush 6, 2) := by decide +kernel
theorem dX10_passes_28 : decode cX10_passes 28 = .ok (.iaload, 1) := by decide +kernel
theorem dX10_passes_29 : decode cX10_passes 29 = .ok (.invokevirtual 354, 3) := by decide +kernel
theorem dX10_passes_32 : decode cX10_passes 32 = .ok (.istore_n 3, 1) := by decide +kernel
theorem dX10_passes_33 : decode cX10_passes 33 = .ok (.aload_n 0, 1) := by decide +kernel
theorem dX10_passes_34 : decode cX10_passes 34 = .ok (.getfield 39, 3) := by decide +kernel
theorem dX10_passes_37 : decode cX10_passes 37 = .ok (.bipush 10, 2) := by decide +kernel
theorem dX10_passes_39 : decode cX10_passes 39 = .ok (.iconst 3, 1) := by decide +kernel
theorem dX10_passes_40 : decode cX10_passes 40 = .ok (.iload_n 2, 1) := by decide +kernel
theorem dX10_passes_41 : decode cX10_passes 41 = .ok (.imul, 1) := by decide +kernel
theorem dX10_passes_42 : decode cX10_passes 42 = .ok (.iadd, 1) := by decide +kernel
theorem dX10_passes_43 : decode cX10_passes 43 = .ok (.iconst 2, 1) := by decide +kernel
theorem dX10_passes_44 : decode cX10_passes 44 = .ok (.iadd, 1) := by decide +kernel
theorem dX10_passes_45 : decode cX10_passes 45 = .ok (.dup2, 1) := by decide +kernel
theorem dX10_passes_46 : decode cX10_passes 46 = .ok (.iaload, 1) := by decide +kernel
theorem dX10_passes_47 : decode cX10_passes 47 = .ok (.iload_n 3, 1) := by decide +kernel
theorem dX10_passes_48 : decode cX10_passes 48 = .ok (.iadd, 1) := by decide +kernel
theorem dX10_passes_49 : decode cX10_passes 49 = .ok (.iastore, 1) := by decide +kernel
theorem dX10_passes_50 : decode cX10_passes 50 = .ok (.iload_n 1, 1) := by decide +kernel
theorem dX10_passes_51 : decode cX10_passes 51 = .ok (.iload_n 3, 1) := by decide +kernel
theorem dX10_passes_52 : decode cX10_passes 52 = .ok (.iadd, 1) := by decide +kernel
theorem dX10_passes_53 : decode cX10_passes 53 = .ok (.istore_n 1, 1) := by decide +kernel
theorem dX10_passes_54 : decode cX10_passes 54 = .ok (.iinc 2 1, 3) := by decide +kernel
theorem dX10_passes_57 : decode cX10_passes 57 = .ok (.goto (-53), 3) := by decide +kernel
theorem dX10_passes_60 : decode cX10_passes 60 = .ok (.aload_n 0, 1) := by decide +kernel
theorem dX10_passes_61 : decode cX10_passes 61 = .ok (.getfield 39, 3) := by decide +kernel
theorem dX10_passes_64 : decode cX10_passes 64 = .ok (.bipush 6, 2) := by decide +kernel
theorem dX10_passes_66 : decode cX10_passes 66 = .ok (.dup2, 1) := by decide +kernel
theorem dX10_passes_67 : decode cX10_passes 67 = .ok (.iaload, 1) := by decide +kernel
theorem dX10_passes_68 : decode cX10_passes 68 = .ok (.iconst 1, 1) := by decide +kernel
theorem dX10_passes_69 : decode cX10_passes 69 = .ok (.iadd, 1) := by decide +kernel
theorem dX10_passes_70 : decode cX10_passes 70 = .ok (.iastore, 1) := by decide +kernel
theorem dX10_passes_71 : decode cX10_passes 71 = .ok (.iload_n 1, 1) := by decide +kernel
theorem dX10_passes_72 : decode cX10_passes 72 = .ok (.ireturn, 1) := by decide +kernel
theorem dX10_day_0 : decode cX10_day 0 = .ok (.aload_n 0, 1) := by decide +kernel
theorem dX10_day_1 : decode cX10_day 1 = .ok (.invokevirtual 358, 3) := by decide +kernel
theorem dX10_day_4 : decode cX10_day 4 = .ok (.ifCond .eq 16, 3) := by decide +kernel
theorem dX10_day_7 : decode cX10_day 7 = .ok (.aload_n 0, 1) := by decide +kernel
theorem dX10_day_8 : decode cX10_day 8 = .ok (.getfield 39, 3) := by decide +kernel
theorem dX10_day_11 : decode cX10_day 11 = .ok (.bipush 6, 2) := by decide +kernel
theorem dX10_day_13 : decode cX10_day 13 = .ok (.iaload, 1) := by decide +kernel
theorem dX10_day_14 : decode cX10_day 14 = .ok (.sipush 999, 3) := by decide +kernel
theorem dX10_day_17 : decode cX10_day 17 = .ok (.if_icmp .ne 5, 3) := by decide +kernel
theorem dX10_day_20 : decode cX10_day 20 = .ok (.iconst (-1), 1) := by decide +kernel
theorem dX10_day_21 : decode cX10_day 21 = .ok (.ireturn, 1) := by decide +kernel
theorem dX10_day_22 : decode cX10_day 22 = .ok (.aload_n 0, 1) := by decide +kernel
theorem dX10_day_23 : decode cX10_day 23 = .ok (.invokevirtual 342, 3) := by decide +kernel
theorem dX10_day_26 : decode cX10_day 26 = .ok (.aload_n 0, 1) := by decide +kernel
theorem dX10_day_27 : decode cX10_day 27 = .ok (.invokevirtual 361, 3) := by decide +kernel
theorem dX10_day_30 : decode cX10_day 30 = .ok (.ireturn, 1) := by decide +kernel
theorem dX10_words_0 : decode cX10_words 0 = .ok (.aload_n 0, 1) := by decide +kernel
theorem dX10_words_1 : decode cX10_words 1 = .ok (.iload_n 1, 1) := by decide +kernel
theorem dX10_words_2 : decode cX10_words 2 = .ok (.iconst 0, 1) := by decide +kernel
theorem dX10_words_3 : decode cX10_words 3 = .ok (.invokevirtual 307, 3) := by decide +kernel
theorem dX10_words_6 : decode cX10_words 6 = .ok (.istore_n 3, 1) := by decide +kernel
theorem dX10_words_7 : decode cX10_words 7 = .ok (.aload_n 0, 1) := by decide +kernel
theorem dX10_words_8 : decode cX10_words 8 = .ok (.iload_n 2, 1) := by decide +kernel
theorem dX10_words_9 : decode cX10_words 9 = .ok (.iload_n 3, 1) := by decide +kernel
theorem dX10_words_10 : decode cX10_words 10 = .ok (.invokevirtual 336, 3) := by decide +kernel
theorem dX10_words_13 : decode cX10_words 13 = .ok (.istore 4, 2) := by decide +kernel
theorem dX10_words_15 : decode cX10_words 15 = .ok (.aload_n 0, 1) := by decide +kernel
theorem dX10_words_16 : decode cX10_words 16 = .ok (.iload_n 1, 1) := by decide +kernel
theorem dX10_words_17 : decode cX10_words 17 = .ok (.invokevirtual 313, 3) := by decide +kernel
theorem dX10_words_20 : decode cX10_words 20 = .ok (.istore 5, 2) := by decide +kernel
theorem dX10_words_22 : decode cX10_words 22 = .ok (.aload_n 0, 1) := by decide +kernel
theorem dX10_words_23 : decode cX10_words 23 = .ok (.iload_n 1, 1) := by decide +kernel
theorem dX10_words_24 : decode cX10_words 24 = .ok (.invokevirtual 325, 3) := by decide +kernel
theorem dX10_words_27 : decode cX10_words 27 = .ok (.istore 6, 2) := by decide +kernel
theorem dX10_words_29 : decode cX10_words 29 = .ok (.iconst 0, 1) := by decide +kernel
theorem dX10_words_30 : decode cX10_words 30 = .ok (.istore 7, 2) := by decide +kernel
theorem dX10_words_32 : decode cX10_words 32 = .ok (.iconst 0, 1) := by decide +kernel
theorem dX10_words_33 : decode cX10_words 33 = .ok (.istore 8, 2) := by decide +kernel
theorem dX10_words_35 : decode cX10_words 35 = .ok (.iload 8, 2) := by decide +kernel
theorem dX10_words_37 : decode cX10_words 37 = .ok (.aload_n 0, 1) := by decide +kernel
theorem dX10_words_38 : decode cX10_words 38 = .ok (.getfield 39, 3) := by decide +kernel
theorem dX10_words_41 : decode cX10_words 41 = .ok (.iconst 4, 1) := by decide +kernel
theorem dX10_words_42 : decode cX10_words 42 = .ok (.iaload, 1) := by decide +kernel
theorem dX10_words_43 : decode cX10_words 43 = .ok (.if_icmp .ge 36, 3) := by decide +kernel
theorem dX10_words_46 : decode cX10_words 46 = .ok (.iload 7, 2) := by decide +kernel
theorem dX10_words_48 : decode cX10_words 48 = .ok (.iload 8, 2) := by decide +kernel
theorem dX10_words_50 : decode cX10_words 50 = .ok (.iload_n 1, 1) := by decide +kernel
theorem dX10_words_51 : decode cX10_words 51 = .ok (.if_icmp .eq 18, 3) := by decide +kernel
theorem dX10_words_54 : decode cX10_words 54 = .ok (.aload_n 0, 1) := by decide +kernel
theorem dX10_words_55 : decode cX10_words 55 = .ok (.iload 8, 2) := by decide +kernel
theorem dX10_words_57 : decode cX10_words 57 = .ok (.iconst 0, 1) := by decide +kernel
theorem dX10_words_58 : decode cX10_words 58 = .ok (.invokevirtual 307, 3) := by decide +kernel
theorem dX10_words_61 : decode cX10_words 61 = .ok (.iload_n 3, 1) := by decide +kernel
theorem dX10_words_62 : decode cX10_words 62 = .ok (.if_icmp .ne 7, 3) := by decide +kernel
theorem dX10_words_65 : decode cX10_words 65 = .ok (.iconst 1, 1) := by decide +kernel
theorem dX10_words_66 : decode cX10_words 66 = .ok (.goto 4, 3) := by decide +kernel
theorem dX10_words_69 : decode cX10_words 69 = .ok (.iconst 0, 1) := by decide +kernel
theorem dX10_words_70 : decode cX10_words 70 = .ok (.iadd, 1) := by decide +kernel
theorem dX10_words_71 : decode cX10_words 71 = .ok (.istore 7, 2) := by decide +kernel
theorem dX10_words_73 : decode cX10_words 73 = .ok (.iinc 8 1, 3) := by decide +kernel
theorem dX10_words_76 : decode cX10_words 76 = .ok (.goto (-41), 3) := by decide +kernel
theorem dX10_words_79 : decode cX10_words 79 = .ok (.aload_n 0, 1) := by decide +kernel
theorem dX10_words_80 : decode cX10_words 80 = .ok (.iconst (-1), 1) := by decide +kernel
theorem dX10_words_81 : decode cX10_words 81 = .ok (.iload 6, 2) := by decide +kernel
theorem dX10_words_83 : decode cX10_words 83 = .ok (.invokevirtual 310, 3) := by decide +kernel
theorem dX10_words_86 : decode cX10_words 86 = .ok (.aload_n 0, 1) := by decide +kernel
theorem dX10_words_87 : decode cX10_words 87 = .ok (.getfield 36, 3) := by decide +kernel
theorem dX10_words_90 : decode cX10_words 90 = .ok (.iconst 0, 1) := by decide +kernel
theorem dX10_words_91 : decode cX10_words 91 = .ok (.iload_n 1, 1) := by decide +kernel
theorem dX10_words_92 : decode cX10_words 92 = .ok (.i2l, 1) := by decide +kernel
theorem dX10_words_93 : decode cX10_words 93 = .ok (.lastore, 1) := by decide +kernel
theorem dX10_words_94 : decode cX10_words 94 = .ok (.aload_n 0, 1) := by decide +kernel
theorem dX10_words_95 : decode cX10_words 95 = .ok (.getfield 36, 3) := by decide +kernel
theorem dX10_words_98 : decode cX10_words 98 = .ok (.iconst 1, 1) := by decide +kernel
theorem dX10_words_99 : decode cX10_words 99 = .ok (.iload_n 2, 1) := by decide +kernel
theorem dX10_words_100 : decode cX10_words 100 = .ok (.i2l, 1) := by decide +kernel
theorem dX10_words_101 : decode cX10_words 101 = .ok (.lastore, 1) := by decide +kernel
theorem dX10_words_102 : decode cX10_words 102 = .ok (.aload_n 0, 1) := by decide +kernel
theorem dX10_words_103 : decode cX10_words 103 = .ok (.getfield 36, 3) := by decide +kernel
theorem dX10_words_106 : decode cX10_words 106 = .ok (.iconst 2, 1) := by decide +kernel
theorem dX10_words_107 : decode cX10_words 107 = .ok (.iload_n 3, 1) := by decide +kernel
theorem dX10_words_108 : decode cX10_words 108 = .ok (.i2l, 1) := by decide +kernel
theorem dX10_words_109 : decode cX10_words 109 = .ok (.lastore, 1) := by decide +kernel
theorem dX10_words_110 : decode cX10_words 110 = .ok (.aload_n 0, 1) := by decide +kernel
theorem dX10_words_111 : decode cX10_words 111 = .ok (.getfield 36, 3) := by decide +kernel
theorem dX10_words_114 : decode cX10_words 114 = .ok (.iconst 3, 1) := by decide +kernel
theorem dX10_words_115 : decode cX10_words 115 = .ok (.iload 4, 2) := by decide +kernel
theorem dX10_words_117 : decode cX10_words 117 = .ok (.i2l, 1) := by decide +kernel
theorem dX10_words_118 : decode cX10_words 118 = .ok (.lastore, 1) := by decide +kernel
theorem dX10_words_119 : decode cX10_words 119 = .ok (.aload_n 0, 1) := by decide +kernel
theorem dX10_words_120 : decode cX10_words 120 = .ok (.getfield 36, 3) := by decide +kernel
theorem dX10_words_123 : decode cX10_words 123 = .ok (.iconst 4, 1) := by decide +kernel
theorem dX10_words_124 : decode cX10_words 124 = .ok (.aload_n 0, 1) := by decide +kernel
theorem dX10_words_125 : decode cX10_words 125 = .ok (.iload_n 1, 1) := by decide +kernel
theorem dX10_words_126 : decode cX10_words 126 = .ok (.iconst 1, 1) := by decide +kernel
theorem dX10_words_127 : decode cX10_words 127 = .ok (.invokevirtual 307, 3) := by decide +kernel
theorem dX10_words_130 : decode cX10_words 130 = .ok (.i2l, 1) := by decide +kernel
theorem dX10_words_131 : decode cX10_words 131 = .ok (.lastore, 1) := by decide +kernel
theorem dX10_words_132 : decode cX10_words 132 = .ok (.aload_n 0, 1) := by decide +kernel
theorem dX10_words_133 : decode cX10_words 133 = .ok (.getfield 36, 3) := by decide +kernel
theorem dX10_words_136 : decode cX10_words 136 = .ok (.iconst 5, 1) := by decide +kernel
theorem dX10_words_137 : decode cX10_words 137 = .ok (.aload_n 0, 1) := by decide +kernel
theorem dX10_words_138 : decode cX10_words 138 = .ok (.iload_n 1, 1) := by decide +kernel
theorem dX10_words_139 : decode cX10_words 139 = .ok (.iload_n 2, 1) := by decide +kernel
theorem dX10_words_140 : decode cX10_words 140 = .ok (.invokevirtual 304, 3) := by decide +kernel
theorem dX10_words_143 : decode cX10_words 143 = .ok (.i2l, 1) := by decide +kernel
theorem dX10_words_144 : decode cX10_words 144 = .ok (.lastore, 1) := by decide +kernel
theorem dX10_words_145 : decode cX10_words 145 = .ok (.aload_n 0, 1) := by decide +kernel
theorem dX10_words_146 : decode cX10_words 146 = .ok (.getfield 36, 3) := by decide +kernel
theorem dX10_words_149 : decode cX10_words 149 = .ok (.bipush 6, 2) := by decide +kernel
theorem dX10_words_151 : decode cX10_words 151 = .ok (.aload_n 0, 1) := by decide +kernel
theorem dX10_words_152 : decode cX10_words 152 = .ok (.getfield 39, 3) := by decide +kernel
theorem dX10_words_155 : decode cX10_words 155 = .ok (.bipush 6, 2) := by decide +kernel
theorem dX10_words_157 : decode cX10_words 157 = .ok (.iaload, 1) := by decide +kernel
theorem dX10_words_158 : decode cX10_words 158 = .ok (.i2l, 1) := by decide +kernel
theorem dX10_words_159 : decode cX10_words 159 = .ok (.lastore, 1) := by decide +kernel
theorem dX10_words_160 : decode cX10_words 160 = .ok (.aload_n 0, 1) := by decide +kernel
theorem dX10_words_161 : decode cX10_words 161 = .ok (.getfield 36, 3) := by decide +kernel
theorem dX10_words_164 : decode cX10_words 164 = .ok (.bipush 7, 2) := by decide +kernel
theorem dX10_words_166 : decode cX10_words 166 = .ok (.iload 6, 2) := by decide +kernel
theorem dX10_words_168 : decode cX10_words 168 = .ok (.i2l, 1) := by decide +kernel
theorem dX10_words_169 : decode cX10_words 169 = .ok (.lastore, 1) := by decide +kernel
theorem dX10_words_170 : decode cX10_words 170 = .ok (.aload_n 0, 1) := by decide +kernel
theorem dX10_words_171 : decode cX10_words 171 = .ok (.getfield 36, 3) := by decide +kernel
theorem dX10_words_174 : decode cX10_words 174 = .ok (.bipush 8, 2) := by decide +kernel
theorem dX10_words_176 : decode cX10_words 176 = .ok (.iload 5, 2) := by decide +kernel
theorem dX10_words_178 : decode cX10_words 178 = .ok (.ifCond .ge 7, 3) := by decide +kernel
theorem dX10_words_181 : decode cX10_words 181 = .ok (.lconst 0, 1) := by decide +kernel
theorem dX10_words_182 : decode cX10_words 182 = .ok (.goto 19, 3) := by decide +kernel
theorem dX10_words_185 : decode cX10_words 185 = .ok (.aload_n 0, 1) := by decide +kernel
theorem dX10_words_186 : decode cX10_words 186 = .ok (.getfield 39, 3) := by decide +kernel
theorem dX10_words_189 : decode cX10_words 189 = .ok (.sipush 128, 3) := by decide +kernel
theorem dX10_words_192 : decode cX10_words 192 = .ok (.iconst 4, 1) := by decide +kernel
theorem dX10_words_193 : decode cX10_words 193 = .ok (.iload 5, 2) := by decide +kernel
theorem dX10_words_195 : decode cX10_words 195 = .ok (.imul, 1) := by decide +kernel
theorem dX10_words_196 : decode cX10_words 196 = .ok (.iadd, 1) := by decide +kernel
theorem dX10_words_197 : decode cX10_words 197 = .ok (.iconst 3, 1) := by decide +kernel
theorem dX10_words_198 : decode cX10_words 198 = .ok (.iadd, 1) := by decide +kernel
theorem dX10_words_199 : decode cX10_words 199 = .ok (.iaload, 1) := by decide +kernel
theorem dX10_words_200 : decode cX10_words 200 = .ok (.i2l, 1) := by decide +kernel
theorem dX10_words_201 : decode cX10_words 201 = .ok (.lastore, 1) := by decide +kernel
theorem dX10_words_202 : decode cX10_words 202 = .ok (.aload_n 0, 1) := by decide +kernel
theorem dX10_words_203 : decode cX10_words 203 = .ok (.getfield 36, 3) := by decide +kernel
theorem dX10_words_206 : decode cX10_words 206 = .ok (.bipush 9, 2) := by decide +kernel
theorem dX10_words_208 : decode cX10_words 208 = .ok (.iload 5, 2) := by decide +kernel
theorem dX10_words_210 : decode cX10_words 210 = .ok (.ifCond .ge 7, 3) := by decide +kernel
theorem dX10_words_213 : decode cX10_words 213 = .ok (.lconst 0, 1) := by decide +kernel
theorem dX10_words_214 : decode cX10_words 214 = .ok (.goto 27, 3) := by decide +kernel
theorem dX10_words_217 : decode cX10_words 217 = .ok (.aload_n 0, 1) := by decide +kernel
theorem dX10_words_218 : decode cX10_words 218 = .ok (.getfield 39, 3) := by decide +kernel
theorem dX10_words_221 : decode cX10_words 221 = .ok (.sipush 128, 3) := by decide +kernel
theorem dX10_words_224 : decode cX10_words 224 = .ok (.iconst 4, 1) := by decide +kernel
theorem dX10_words_225 : decode cX10_words 225 = .ok (.iload 5, 2) := by decide +kernel
theorem dX10_words_227 : decode cX10_words 227 = .ok (.imul, 1) := by decide +kernel
theorem dX10_words_228 : decode cX10_words 228 = .ok (.iadd, 1) := by decide +kernel
theorem dX10_words_229 : decode cX10_words 229 = .ok (.iconst 2, 1) := by decide +kernel
theorem dX10_words_230 : decode cX10_words 230 = .ok (.iadd, 1) := by decide +kernel
theorem dX10_words_231 : decode cX10_words 231 = .ok (.iaload, 1) := by decide +kernel
theorem dX10_words_232 : decode cX10_words 232 = .ok (.aload_n 0, 1) := by decide +kernel
theorem dX10_words_233 : decode cX10_words 233 = .ok (.getfield 39, 3) := by decide +kernel
theorem dX10_words_236 : decode cX10_words 236 = .ok (.bipush 6, 2) := by decide +kernel
theorem dX10_words_238 : decode cX10_words 238 = .ok (.iaload, 1) := by decide +kernel
theorem dX10_words_239 : decode cX10_words 239 = .ok (.isub, 1) := by decide +kernel
theorem dX10_words_240 : decode cX10_words 240 = .ok (.i2l, 1) := by decide +kernel
theorem dX10_words_241 : decode cX10_words 241 = .ok (.lastore, 1) := by decide +kernel
theorem dX10_words_242 : decode cX10_words 242 = .ok (.aload_n 0, 1) := by decide +kernel
theorem dX10_words_243 : decode cX10_words 243 = .ok (.getfield 36, 3) := by decide +kernel
theorem dX10_words_246 : decode cX10_words 246 = .ok (.bipush 10, 2) := by decide +kernel
theorem dX10_words_248 : decode cX10_words 248 = .ok (.aload_n 0, 1) := by decide +kernel
theorem dX10_words_249 : decode cX10_words 249 = .ok (.getfield 45, 3) := by decide +kernel
theorem dX10_words_252 : decode cX10_words 252 = .ok (.iload_n 3, 1) := by decide +kernel
theorem dX10_words_253 : decode cX10_words 253 = .ok (.iaload, 1) := by decide +kernel
theorem dX10_words_254 : decode cX10_words 254 = .ok (.bipush 99, 2) := by decide +kernel
theorem dX10_words_256 : decode cX10_words 256 = .ok (.if_icmp .eq 15, 3) := by decide +kernel
theorem dX10_words_259 : decode cX10_words 259 = .ok (.aload_n 0, 1) := by decide +kernel
theorem dX10_words_260 : decode cX10_words 260 = .ok (.getfield 45, 3) := by decide +kernel
theorem dX10_words_263 : decode cX10_words 263 = .ok (.iload 4, 2) := by decide +kernel
theorem dX10_words_265 : decode cX10_words 265 = .ok (.iaload, 1) := by decide +kernel
theorem dX10_words_266 : decode cX10_words 266 = .ok (.bipush 99, 2) := by decide +kernel
theorem dX10_words_268 : decode cX10_words 268 = .ok (.if_icmp .ne 9, 3) := by decide +kernel
theorem dX10_words_271 : decode cX10_words 271 = .ok (.ldc2_w 364, 3) := by decide +kernel
theorem dX10_words_274 : decode cX10_words 274 = .ok (.goto 18, 3) := by decide +kernel
theorem dX10_words_277 : decode cX10_words 277 = .ok (.aload_n 0, 1) := by decide +kernel
theorem dX10_words_278 : decode cX10_words 278 = .ok (.getfield 45, 3) := by decide +kernel
theorem dX10_words_281 : decode cX10_words 281 = .ok (.iload_n 3, 1) := by decide +kernel
theorem dX10_words_282 : decode cX10_words 282 = .ok (.iaload, 1) := by decide +kernel
theorem dX10_words_283 : decode cX10_words 283 = .ok (.aload_n 0, 1) := by decide +kernel
theorem dX10_words_284 : decode cX10_words 284 = .ok (.getfield 45, 3) := by decide +kernel
theorem dX10_words_287 : decode cX10_words 287 = .ok (.iload 4, 2) := by decide +kernel
theorem dX10_words_289 : decode cX10_words 289 = .ok (.iaload, 1) := by decide +kernel
theorem dX10_words_290 : decode cX10_words 290 = .ok (.isub, 1) := by decide +kernel
theorem dX10_words_291 : decode cX10_words 291 = .ok (.i2l, 1) := by decide +kernel
theorem dX10_words_292 : decode cX10_words 292 = .ok (.lastore, 1) := by decide +kernel
theorem dX10_words_293 : decode cX10_words 293 = .ok (.aload_n 0, 1) := by decide +kernel
theorem dX10_words_294 : decode cX10_words 294 = .ok (.getfield 36, 3) := by decide +kernel
theorem dX10_words_297 : decode cX10_words 297 = .ok (.bipush 11, 2) := by decide +kernel
theorem dX10_words_299 : decode cX10_words 299 = .ok (.iload 7, 2) := by decide +kernel
theorem dX10_words_301 : decode cX10_words 301 = .ok (.i2l, 1) := by decide +kernel
theorem dX10_words_302 : decode cX10_words 302 = .ok (.lastore, 1) := by decide +kernel
theorem dX10_words_303 : decode cX10_words 303 = .ok (.return_, 1) := by decide +kernel
theorem dX10_summedBy_0 : decode cX10_summedBy 0 = .ok (.iconst 0, 1) := by decide +kernel
theorem dX10_summedBy_1 : decode cX10_summedBy 1 = .ok (.istore_n 2, 1) := by decide +kernel
theorem dX10_summedBy_2 : decode cX10_summedBy 2 = .ok (.iload_n 2, 1) := by decide +kernel
theorem dX10_summedBy_3 : decode cX10_summedBy 3 = .ok (.aload_n 0, 1) := by decide +kernel
theorem dX10_summedBy_4 : decode cX10_summedBy 4 = .ok (.getfield 23, 3) := by decide +kernel
theorem dX10_summedBy_7 : decode cX10_summedBy 7 = .ok (.iload_n 1, 1) := by decide +kernel
theorem dX10_summedBy_8 : decode cX10_summedBy 8 = .ok (.iaload, 1) := by decide +kernel
theorem dX10_summedBy_9 : decode cX10_summedBy 9 = .ok (.if_icmp .ge 75, 3) := by decide +kernel
theorem dX10_summedBy_12 : decode cX10_summedBy 12 = .ok (.bipush 48, 2) := by decide +kernel
theorem dX10_summedBy_14 : decode cX10_summedBy 14 = .ok (.iload_n 1, 1) := by decide +kernel
theorem dX10_summedBy_15 : decode cX10_summedBy 15 = .ok (.imul, 1) := by decide +kernel
theorem dX10_summedBy_16 : decode cX10_summedBy 16 = .ok (.iconst 4, 1) := by decide +kernel
theorem dX10_summedBy_17 : decode cX10_summedBy 17 = .ok (.iload_n 2, 1) := by decide +kernel
theorem dX10_summedBy_18 : decode cX10_summedBy 18 = .ok (.imul, 1) := by decide +kernel
theorem dX10_summedBy_19 : decode cX10_summedBy 19 = .ok (.iadd, 1) := by decide +kernel
theorem dX10_summedBy_20 : decode cX10_summedBy 20 = .ok (.istore_n 3, 1) := by decide +kernel
theorem dX10_summedBy_21 : decode cX10_summedBy 21 = .ok (.aload_n 0, 1) := by decide +kernel
theorem dX10_summedBy_22 : decode cX10_summedBy 22 = .ok (.getfield 20, 3) := by decide +kernel
theorem dX10_summedBy_25 : decode cX10_summedBy 25 = .ok (.iload_n 3, 1) := by decide +kernel
theorem dX10_summedBy_26 : decode cX10_summedBy 26 = .ok (.iconst 2, 1) := by decide +kernel
theorem dX10_summedBy_27 : decode cX10_summedBy 27 = .ok (.iadd, 1) := by decide +kernel
theorem dX10_summedBy_28 : decode cX10_summedBy 28 = .ok (.iaload, 1) := by decide +kernel
theorem dX10_summedBy_29 : decode cX10_summedBy 29 = .ok (.ifCond .lt 29, 3) := by decide +kernel
theorem dX10_summedBy_32 : decode cX10_summedBy 32 = .ok (.aload_n 0, 1) := by decide +kernel
theorem dX10_summedBy_33 : decode cX10_summedBy 33 = .ok (.iload_n 1, 1) := by decide +kernel
theorem dX10_summedBy_34 : decode cX10_summedBy 34 = .ok (.aload_n 0, 1) := by decide +kernel
theorem dX10_summedBy_35 : decode cX10_summedBy 35 = .ok (.getfield 20, 3) := by decide +kernel
theorem dX10_summedBy_38 : decode cX10_summedBy 38 = .ok (.iload_n 3, 1) := by decide +kernel
theorem dX10_summedBy_39 : decode cX10_summedBy 39 = .ok (.iconst 2, 1) := by decide +kernel
theorem dX10_summedBy_40 : decode cX10_summedBy 40 = .ok (.iadd, 1) := by decide +kernel
theorem dX10_summedBy_41 : decode cX10_summedBy 41 = .ok (.iaload, 1) := by decide +kernel
theorem dX10_summedBy_42 : decode cX10_summedBy 42 = .ok (.aload_n 0, 1) := by decide +kernel
theorem dX10_summedBy_43 : decode cX10_summedBy 43 = .ok (.getfield 20, 3) := by decide +kernel
theorem dX10_summedBy_46 : decode cX10_summedBy 46 = .ok (.iload_n 3, 1) := by decide +kernel
theorem dX10_summedBy_47 : decode cX10_summedBy 47 = .ok (.iconst 3, 1) := by decide +kernel
theorem dX10_summedBy_48 : decode cX10_summedBy 48 = .ok (.iadd, 1) := by decide +kernel
theorem dX10_summedBy_49 : decode cX10_summedBy 49 = .ok (.iaload, 1) := by decide +kernel
theorem dX10_summedBy_50 : decode cX10_summedBy 50 = .ok (.invokevirtual 366, 3) := by decide +kernel
theorem dX10_summedBy_53 : decode cX10_summedBy 53 = .ok (.lconst 1, 1) := by decide +kernel
theorem dX10_summedBy_54 : decode cX10_summedBy 54 = .ok (.lcmp, 1) := by decide +kernel
theorem dX10_summedBy_55 : decode cX10_summedBy 55 = .ok (.ifCond .ne 23, 3) := by decide +kernel
theorem dX10_summedBy_58 : decode cX10_summedBy 58 = .ok (.aload_n 0, 1) := by decide +kernel
theorem dX10_summedBy_59 : decode cX10_summedBy 59 = .ok (.iload_n 1, 1) := by decide +kernel
theorem dX10_summedBy_60 : decode cX10_summedBy 60 = .ok (.aload_n 0, 1) := by decide +kernel
theorem dX10_summedBy_61 : decode cX10_summedBy 61 = .ok (.getfield 20, 3) := by decide +kernel
theorem dX10_summedBy_64 : decode cX10_summedBy 64 = .ok (.iload_n 3, 1) := by decide +kernel
theorem dX10_summedBy_65 : decode cX10_summedBy 65 = .ok (.iaload, 1) := by decide +kernel
theorem dX10_summedBy_66 : decode cX10_summedBy 66 = .ok (.aload_n 0, 1) := by decide +kernel
theorem dX10_summedBy_67 : decode cX10_summedBy 67 = .ok (.getfield 20, 3) := by decide +kernel
theorem dX10_summedBy_70 : decode cX10_summedBy 70 = .ok (.iload_n 3, 1) := by decide +kernel
theorem dX10_summedBy_71 : decode cX10_summedBy 71 = .ok (.iconst 1, 1) := by decide +kernel
theorem dX10_summedBy_72 : decode cX10_summedBy 72 = .ok (.iadd, 1) := by decide +kernel
theorem dX10_summedBy_73 : decode cX10_summedBy 73 = .ok (.iaload, 1) := by decide +kernel
theorem dX10_summedBy_74 : decode cX10_summedBy 74 = .ok (.invokevirtual 366, 3) := by decide +kernel
theorem dX10_summedBy_77 : decode cX10_summedBy 77 = .ok (.lreturn, 1) := by decide +kernel
theorem dX10_summedBy_78 : decode cX10_summedBy 78 = .ok (.iinc 2 1, 3) := by decide +kernel
theorem dX10_summedBy_81 : decode cX10_summedBy 81 = .ok (.goto (-79), 3) := by decide +kernel
theorem dX10_summedBy_84 : decode cX10_summedBy 84 = .ok (.lconst 0, 1) := by decide +kernel
theorem dX10_summedBy_85 : decode cX10_summedBy 85 = .ok (.lreturn, 1) := by decide +kernel
theorem dX10_bridgeBy_0 : decode cX10_bridgeBy 0 = .ok (.iconst (-1), 1) := by decide +kernel
theorem dX10_bridgeBy_1 : decode cX10_bridgeBy 1 = .ok (.istore_n 3, 1) := by decide +kernel
theorem dX10_bridgeBy_2 : decode cX10_bridgeBy 2 = .ok (.lconst 0, 1) := by decide +kernel
theorem dX10_bridgeBy_3 : decode cX10_bridgeBy 3 = .ok (.lstore 4, 2) := by decide +kernel
theorem dX10_bridgeBy_5 : decode cX10_bridgeBy 5 = .ok (.iconst 0, 1) := by decide +kernel
theorem dX10_bridgeBy_6 : decode cX10_bridgeBy 6 = .ok (.istore 6, 2) := by decide +kernel
theorem dX10_bridgeBy_8 : decode cX10_bridgeBy 8 = .ok (.iload 6, 2) := by decide +kernel
theorem dX10_bridgeBy_10 : decode cX10_bridgeBy 10 = .ok (.aload_n 0, 1) := by decide +kernel
theorem dX10_bridgeBy_11 : decode cX10_bridgeBy 11 = .ok (.getfield 39, 3) := by decide +kernel
theorem dX10_bridgeBy_14 : decode cX10_bridgeBy 14 = .ok (.iconst 2, 1) := by decide +kernel
theorem dX10_bridgeBy_15 : decode cX10_bridgeBy 15 = .ok (.iaload, 1) := by decide +kernel
theorem dX10_bridgeBy_16 : decode cX10_bridgeBy 16 = .ok (.if_icmp .ge 54, 3) := by decide +kernel
theorem dX10_bridgeBy_19 : decode cX10_bridgeBy 19 = .ok (.aload_n 0, 1) := by decide +kernel
theorem dX10_bridgeBy_20 : decode cX10_bridgeBy 20 = .ok (.iload_n 2, 1) := by decide +kernel
theorem dX10_bridgeBy_21 : decode cX10_bridgeBy 21 = .ok (.iload 6, 2) := by decide +kernel
theorem dX10_bridgeBy_23 : decode cX10_bridgeBy 23 = .ok (.invokevirtual 339, 3) := by decide +kernel
theorem dX10_bridgeBy_26 : decode cX10_bridgeBy 26 = .ok (.ifCond .ne 6, 3) := by decide +kernel
theorem dX10_bridgeBy_29 : decode cX10_bridgeBy 29 = .ok (.goto 35, 3) := by decide +kernel
theorem dX10_bridgeBy_32 : decode cX10_bridgeBy 32 = .ok (.aload_n 0, 1) := by decide +kernel
theorem dX10_bridgeBy_33 : decode cX10_bridgeBy 33 = .ok (.iload_n 2, 1) := by decide +kernel
theorem dX10_bridgeBy_34 : decode cX10_bridgeBy 34 = .ok (.iload 6, 2) := by decide +kernel
theorem dX10_bridgeBy_36 : decode cX10_bridgeBy 36 = .ok (.invokevirtual 370, 3) := by decide +kernel
theorem dX10_bridgeBy_39 : decode cX10_bridgeBy 39 = .ok (.aload_n 0, 1) := by decide +kernel
theorem dX10_bridgeBy_40 : decode cX10_bridgeBy 40 = .ok (.iload_n 1, 1) := by decide +kernel
theorem dX10_bridgeBy_41 : decode cX10_bridgeBy 41 = .ok (.invokevirtual 373, 3) := by decide +kernel
theorem dX10_bridgeBy_44 : decode cX10_bridgeBy 44 = .ok (.lstore 7, 2) := by decide +kernel
theorem dX10_bridgeBy_46 : decode cX10_bridgeBy 46 = .ok (.lload 7, 2) := by decide +kernel
theorem dX10_bridgeBy_48 : decode cX10_bridgeBy 48 = .ok (.lload 4, 2) := by decide +kernel
theorem dX10_bridgeBy_50 : decode cX10_bridgeBy 50 = .ok (.lcmp, 1) := by decide +kernel
theorem dX10_bridgeBy_51 : decode cX10_bridgeBy 51 = .ok (.ifCond .gt 6, 3) := by decide +kernel
theorem dX10_bridgeBy_54 : decode cX10_bridgeBy 54 = .ok (.goto 10, 3) := by decide +kernel
theorem dX10_bridgeBy_57 : decode cX10_bridgeBy 57 = .ok (.iload 6, 2) := by decide +kernel
theorem dX10_bridgeBy_59 : decode cX10_bridgeBy 59 = .ok (.istore_n 3, 1) := by decide +kernel
theorem dX10_bridgeBy_60 : decode cX10_bridgeBy 60 = .ok (.lload 7, 2) := by decide +kernel
theorem dX10_bridgeBy_62 : decode cX10_bridgeBy 62 = .ok (.lstore 4, 2) := by decide +kernel
theorem dX10_bridgeBy_64 : decode cX10_bridgeBy 64 = .ok (.iinc 6 1, 3) := by decide +kernel
theorem dX10_bridgeBy_67 : decode cX10_bridgeBy 67 = .ok (.goto (-59), 3) := by decide +kernel
theorem dX10_bridgeBy_70 : decode cX10_bridgeBy 70 = .ok (.iload_n 3, 1) := by decide +kernel
theorem dX10_bridgeBy_71 : decode cX10_bridgeBy 71 = .ok (.ireturn, 1) := by decide +kernel
theorem dX10_run_0 : decode cX10_run 0 = .ok (.aload_n 0, 1) := by decide +kernel
theorem dX10_run_1 : decode cX10_run 1 = .ok (.invokevirtual 358, 3) := by decide +kernel
theorem dX10_run_4 : decode cX10_run 4 = .ok (.ifCond .eq 38, 3) := by decide +kernel
theorem dX10_run_7 : decode cX10_run 7 = .ok (.aload_n 0, 1) := by decide +kernel
theorem dX10_run_8 : decode cX10_run 8 = .ok (.iload_n 1, 1) := by decide +kernel
theorem dX10_run_9 : decode cX10_run 9 = .ok (.invokevirtual 377, 3) := by decide +kernel
theorem dX10_run_12 : decode cX10_run 12 = .ok (.ifCond .eq 30, 3) := by decide +kernel
theorem dX10_run_15 : decode cX10_run 15 = .ok (.iload_n 2, 1) := by decide +kernel
theorem dX10_run_16 : decode cX10_run 16 = .ok (.i2l, 1) := by decide +kernel
theorem dX10_run_17 : decode cX10_run 17 = .ok (.lconst 1, 1) := by decide +kernel
theorem dX10_run_18 : decode cX10_run 18 = .ok (.ldc2_w 380, 3) := by decide +kernel
theorem dX10_run_21 : decode cX10_run 21 = .ok (.invokestatic 118, 3) := by decide +kernel
theorem dX10_run_24 : decode cX10_run 24 = .ok (.ifCond .eq 18, 3) := by decide +kernel
theorem dX10_run_27 : decode cX10_run 27 = .ok (.aload_n 0, 1) := by decide +kernel
theorem dX10_run_28 : decode cX10_run 28 = .ok (.getfield 39, 3) := by decide +kernel
theorem dX10_run_31 : decode cX10_run 31 = .ok (.bipush 6, 2) := by decide +kernel
theorem dX10_run_33 : decode cX10_run 33 = .ok (.iaload, 1) := by decide +kernel
theorem dX10_run_34 : decode cX10_run 34 = .ok (.iload_n 2, 1) := by decide +kernel
theorem dX10_run_35 : decode cX10_run 35 = .ok (.iadd, 1) := by decide +kernel
theorem dX10_run_36 : decode cX10_run 36 = .ok (.sipush 999, 3) := by decide +kernel
theorem dX10_run_39 : decode cX10_run 39 = .ok (.if_icmp .le 5, 3) := by decide +kernel
theorem dX10_run_42 : decode cX10_run 42 = .ok (.iconst (-1), 1) := by decide +kernel
theorem dX10_run_43 : decode cX10_run 43 = .ok (.ireturn, 1) := by decide +kernel
theorem dX10_run_44 : decode cX10_run 44 = .ok (.aload_n 0, 1) := by decide +kernel
theorem dX10_run_45 : decode cX10_run 45 = .ok (.iconst 0, 1) := by decide +kernel
theorem dX10_run_46 : decode cX10_run 46 = .ok (.putfield 279, 3) := by decide +kernel
theorem dX10_run_49 : decode cX10_run 49 = .ok (.iconst 0, 1) := by decide +kernel
theorem dX10_run_50 : decode cX10_run 50 = .ok (.istore_n 3, 1) := by decide +kernel
theorem dX10_run_51 : decode cX10_run 51 = .ok (.iconst 0, 1) := by decide +kernel
theorem dX10_run_52 : decode cX10_run 52 = .ok (.istore 4, 2) := by decide +kernel
theorem dX10_run_54 : decode cX10_run 54 = .ok (.iload 4, 2) := by decide +kernel
theorem dX10_run_56 : decode cX10_run 56 = .ok (.iload_n 2, 1) := by decide +kernel
theorem dX10_run_57 : decode cX10_run 57 = .ok (.if_icmp .ge 58, 3) := by decide +kernel
theorem dX10_run_60 : decode cX10_run 60 = .ok (.iconst 0, 1) := by decide +kernel
theorem dX10_run_61 : decode cX10_run 61 = .ok (.istore 5, 2) := by decide +kernel
theorem dX10_run_63 : decode cX10_run 63 = .ok (.iload 5, 2) := by decide +kernel
theorem dX10_run_65 : decode cX10_run 65 = .ok (.aload_n 0, 1) := by decide +kernel
theorem dX10_run_66 : decode cX10_run 66 = .ok (.getfield 39, 3) := by decide +kernel
theorem dX10_run_69 : decode cX10_run 69 = .ok (.iconst 4, 1) := by decide +kernel
theorem dX10_run_70 : decode cX10_run 70 = .ok (.iaload, 1) := by decide +kernel
theorem dX10_run_71 : decode cX10_run 71 = .ok (.if_icmp .ge 31, 3) := by decide +kernel
theorem dX10_run_74 : decode cX10_run 74 = .ok (.aload_n 0, 1) := by decide +kernel
theorem dX10_run_75 : decode cX10_run 75 = .ok (.iload_n 1, 1) := by decide +kernel
theorem dX10_run_76 : decode cX10_run 76 = .ok (.iload 5, 2) := by decide +kernel
theorem dX10_run_78 : decode cX10_run 78 = .ok (.invokevirtual 382, 3) := by decide +kernel
theorem dX10_run_81 : decode cX10_run 81 = .ok (.istore 6, 2) := by decide +kernel
theorem dX10_run_83 : decode cX10_run 83 = .ok (.iload 6, 2) := by decide +kernel
theorem dX10_run_85 : decode cX10_run 85 = .ok (.ifCond .lt 11, 3) := by decide +kernel
theorem dX10_run_88 : decode cX10_run 88 = .ok (.aload_n 0, 1) := by decide +kernel
theorem dX10_run_89 : decode cX10_run 89 = .ok (.iload 5, 2) := by decide +kernel
theorem dX10_run_91 : decode cX10_run 91 = .ok (.iload 6, 2) := by decide +kernel
theorem dX10_run_93 : decode cX10_run 93 = .ok (.invokevirtual 345, 3) := by decide +kernel
theorem dX10_run_96 : decode cX10_run 96 = .ok (.iinc 5 1, 3) := by decide +kernel
theorem dX10_run_99 : decode cX10_run 99 = .ok (.goto (-36), 3) := by decide +kernel
theorem dX10_run_102 : decode cX10_run 102 = .ok (.iload_n 3, 1) := by decide +kernel
theorem dX10_run_103 : decode cX10_run 103 = .ok (.aload_n 0, 1) := by decide +kernel
theorem dX10_run_104 : decode cX10_run 104 = .ok (.invokevirtual 361, 3) := by decide +kernel
theorem dX10_run_107 : decode cX10_run 107 = .ok (.iadd, 1) := by decide +kernel
theorem dX10_run_108 : decode cX10_run 108 = .ok (.istore_n 3, 1) := by decide +kernel
theorem dX10_run_109 : decode cX10_run 109 = .ok (.iinc 4 1, 3) := by decide +kernel
theorem dX10_run_112 : decode cX10_run 112 = .ok (.goto (-58), 3) := by decide +kernel
theorem dX10_run_115 : decode cX10_run 115 = .ok (.iload_n 3, 1) := by decide +kernel
theorem dX10_run_116 : decode cX10_run 116 = .ok (.ireturn, 1) := by decide +kernel
theorem dX10_way_0 : decode cX10_way 0 = .ok (.aload_n 0, 1) := by decide +kernel
theorem dX10_way_1 : decode cX10_way 1 = .ok (.iload_n 1, 1) := by decide +kernel
theorem dX10_way_2 : decode cX10_way 2 = .ok (.invokevirtual 316, 3) := by decide +kernel
theorem dX10_way_5 : decode cX10_way 5 = .ok (.ifCond .eq 21, 3) := by decide +kernel
theorem dX10_way_8 : decode cX10_way 8 = .ok (.aload_n 0, 1) := by decide +kernel
theorem dX10_way_9 : decode cX10_way 9 = .ok (.iload_n 2, 1) := by decide +kernel
theorem dX10_way_10 : decode cX10_way 10 = .ok (.invokevirtual 385, 3) := by decide +kernel
theorem dX10_way_13 : decode cX10_way 13 = .ok (.ifCond .eq 13, 3) := by decide +kernel
theorem dX10_way_16 : decode cX10_way 16 = .ok (.iload_n 3, 1) := by decide +kernel
theorem dX10_way_17 : decode cX10_way 17 = .ok (.i2l, 1) := by decide +kernel
theorem dX10_way_18 : decode cX10_way 18 = .ok (.lconst 0, 1) := by decide +kernel
theorem dX10_way_19 : decode cX10_way 19 = .ok (.lconst 1, 1) := by decide +kernel
theorem dX10_way_20 : decode cX10_way 20 = .ok (.invokestatic 118, 3) := by decide +kernel
theorem dX10_way_23 : decode cX10_way 23 = .ok (.ifCond .ne 6, 3) := by decide +kernel
theorem dX10_way_26 : decode cX10_way 26 = .ok (.bipush (-3), 2) := by decide +kernel
theorem dX10_way_28 : decode cX10_way 28 = .ok (.ireturn, 1) := by decide +kernel
theorem dX10_way_29 : decode cX10_way 29 = .ok (.aload_n 0, 1) := by decide +kernel
theorem dX10_way_30 : decode cX10_way 30 = .ok (.iload_n 1, 1) := by decide +kernel
theorem dX10_way_31 : decode cX10_way 31 = .ok (.iload_n 2, 1) := by decide +kernel
theorem dX10_way_32 : decode cX10_way 32 = .ok (.invokevirtual 388, 3) := by decide +kernel
theorem dX10_way_35 : decode cX10_way 35 = .ok (.istore 4, 2) := by decide +kernel
theorem dX10_way_37 : decode cX10_way 37 = .ok (.iload 4, 2) := by decide +kernel
theorem dX10_way_39 : decode cX10_way 39 = .ok (.bipush 99, 2) := by decide +kernel
theorem dX10_way_41 : decode cX10_way 41 = .ok (.if_icmp .ne 6, 3) := by decide +kernel
theorem dX10_way_44 : decode cX10_way 44 = .ok (.bipush (-2), 2) := by decide +kernel
theorem dX10_way_46 : decode cX10_way 46 = .ok (.ireturn, 1) := by decide +kernel
theorem dX10_way_47 : decode cX10_way 47 = .ok (.iload_n 3, 1) := by decide +kernel
theorem dX10_way_48 : decode cX10_way 48 = .ok (.ifCond .ne 6, 3) := by decide +kernel
theorem dX10_way_51 : decode cX10_way 51 = .ok (.iload 4, 2) := by decide +kernel
theorem dX10_way_53 : decode cX10_way 53 = .ok (.ireturn, 1) := by decide +kernel
theorem dX10_way_54 : decode cX10_way 54 = .ok (.iconst 0, 1) := by decide +kernel
theorem dX10_way_55 : decode cX10_way 55 = .ok (.istore 5, 2) := by decide +kernel
theorem dX10_way_57 : decode cX10_way 57 = .ok (.iload 5, 2) := by decide +kernel
theorem dX10_way_59 : decode cX10_way 59 = .ok (.aload_n 0, 1) := by decide +kernel
theorem dX10_way_60 : decode cX10_way 60 = .ok (.getfield 39, 3) := by decide +kernel
theorem dX10_way_63 : decode cX10_way 63 = .ok (.iconst 2, 1) := by decide +kernel
theorem dX10_way_64 : decode cX10_way 64 = .ok (.iaload, 1) := by decide +kernel
theorem dX10_way_65 : decode cX10_way 65 = .ok (.if_icmp .ge 51, 3) := by decide +kernel
theorem dX10_way_68 : decode cX10_way 68 = .ok (.iload 4, 2) := by decide +kernel
theorem dX10_way_70 : decode cX10_way 70 = .ok (.ifCond .le 46, 3) := by decide +kernel
theorem dX10_way_73 : decode cX10_way 73 = .ok (.aload_n 0, 1) := by decide +kernel
theorem dX10_way_74 : decode cX10_way 74 = .ok (.iload_n 1, 1) := by decide +kernel
theorem dX10_way_75 : decode cX10_way 75 = .ok (.iload 5, 2) := by decide +kernel
theorem dX10_way_77 : decode cX10_way 77 = .ok (.invokevirtual 339, 3) := by decide +kernel
theorem dX10_way_80 : decode cX10_way 80 = .ok (.ifCond .eq 30, 3) := by decide +kernel
theorem dX10_way_83 : decode cX10_way 83 = .ok (.aload_n 0, 1) := by decide +kernel
theorem dX10_way_84 : decode cX10_way 84 = .ok (.getfield 45, 3) := by decide +kernel
theorem dX10_way_87 : decode cX10_way 87 = .ok (.aload_n 0, 1) := by decide +kernel
theorem dX10_way_88 : decode cX10_way 88 = .ok (.iload 5, 2) := by decide +kernel
theorem dX10_way_90 : decode cX10_way 90 = .ok (.aload_n 0, 1) := by decide +kernel
theorem dX10_way_91 : decode cX10_way 91 = .ok (.iload_n 1, 1) := by decide +kernel
theorem dX10_way_92 : decode cX10_way 92 = .ok (.iconst 0, 1) := by decide +kernel
theorem dX10_way_93 : decode cX10_way 93 = .ok (.invokevirtual 307, 3) := by decide +kernel
theorem dX10_way_96 : decode cX10_way 96 = .ok (.invokevirtual 336, 3) := by decide +kernel
theorem dX10_way_99 : decode cX10_way 99 = .ok (.iaload, 1) := by decide +kernel
theorem dX10_way_100 : decode cX10_way 100 = .ok (.iload 4, 2) := by decide +kernel
theorem dX10_way_102 : decode cX10_way 102 = .ok (.iconst 1, 1) := by decide +kernel
theorem dX10_way_103 : decode cX10_way 103 = .ok (.isub, 1) := by decide +kernel
theorem dX10_way_104 : decode cX10_way 104 = .ok (.if_icmp .ne 6, 3) := by decide +kernel
theorem dX10_way_107 : decode cX10_way 107 = .ok (.iload 5, 2) := by decide +kernel
theorem dX10_way_109 : decode cX10_way 109 = .ok (.ireturn, 1) := by decide +kernel
theorem dX10_way_110 : decode cX10_way 110 = .ok (.iinc 5 1, 3) := by decide +kernel
theorem dX10_way_113 : decode cX10_way 113 = .ok (.goto (-56), 3) := by decide +kernel
theorem dX10_way_116 : decode cX10_way 116 = .ok (.iconst (-1), 1) := by decide +kernel
theorem dX10_way_117 : decode cX10_way 117 = .ok (.ireturn, 1) := by decide +kernel
theorem dX10_goesOver_0 : decode cX10_goesOver 0 = .ok (.iload_n 2, 1) := by decide +kernel
theorem dX10_goesOver_1 : decode cX10_goesOver 1 = .ok (.ifCond .ge 4, 3) := by decide +kernel
theorem dX10_goesOver_4 : decode cX10_goesOver 4 = .ok (.return_, 1) := by decide +kernel
theorem dX10_goesOver_5 : decode cX10_goesOver 5 = .ok (.aload_n 0, 1) := by decide +kernel
theorem dX10_goesOver_6 : decode cX10_goesOver 6 = .ok (.getfield 39, 3) := by decide +kernel
theorem dX10_goesOver_9 : decode cX10_goesOver 9 = .ok (.bipush 10, 2) := by decide +kernel
theorem dX10_goesOver_11 : decode cX10_goesOver 11 = .ok (.iconst 3, 1) := by decide +kernel
theorem dX10_goesOver_12 : decode cX10_goesOver 12 = .ok (.iload_n 1, 1) := by decide +kernel
theorem dX10_goesOver_13 : decode cX10_goesOver 13 = .ok (.imul, 1) := by decide +kernel
theorem dX10_goesOver_14 : decode cX10_goesOver 14 = .ok (.iadd, 1) := by decide +kernel
theorem dX10_goesOver_15 : decode cX10_goesOver 15 = .ok (.aload_n 0, 1) := by decide +kernel
theorem dX10_goesOver_16 : decode cX10_goesOver 16 = .ok (.iload_n 2, 1) := by decide +kernel
theorem dX10_goesOver_17 : decode cX10_goesOver 17 = .ok (.aload_n 0, 1) := by decide +kernel
theorem dX10_goesOver_18 : decode cX10_goesOver 18 = .ok (.iload_n 1, 1) := by decide +kernel
theorem dX10_goesOver_19 : decode cX10_goesOver 19 = .ok (.iconst 0, 1) := by decide +kernel
theorem dX10_goesOver_20 : decode cX10_goesOver 20 = .ok (.invokevirtual 307, 3) := by decide +kernel
theorem dX10_goesOver_23 : decode cX10_goesOver 23 = .ok (.invokevirtual 336, 3) := by decide +kernel
theorem dX10_goesOver_26 : decode cX10_goesOver 26 = .ok (.iastore, 1) := by decide +kernel
theorem dX10_goesOver_27 : decode cX10_goesOver 27 = .ok (.aload_n 0, 1) := by decide +kernel
theorem dX10_goesOver_28 : decode cX10_goesOver 28 = .ok (.getfield 39, 3) := by decide +kernel
theorem dX10_goesOver_31 : decode cX10_goesOver 31 = .ok (.bipush 22, 2) := by decide +kernel
theorem dX10_goesOver_33 : decode cX10_goesOver 33 = .ok (.bipush 9, 2) := by decide +kernel
theorem dX10_goesOver_35 : decode cX10_goesOver 35 = .ok (.iload_n 1, 1) := by decide +kernel
theorem dX10_goesOver_36 : decode cX10_goesOver 36 = .ok (.imul, 1) := by decide +kernel
theorem dX10_goesOver_37 : decode cX10_goesOver 37 = .ok (.iadd, 1) := by decide +kernel
theorem dX10_goesOver_38 : decode cX10_goesOver 38 = .ok (.iload_n 2, 1) := by decide +kernel
theorem dX10_goesOver_39 : decode cX10_goesOver 39 = .ok (.iadd, 1) := by decide +kernel
theorem dX10_goesOver_40 : decode cX10_goesOver 40 = .ok (.dup2, 1) := by decide +kernel
theorem dX10_goesOver_41 : decode cX10_goesOver 41 = .ok (.iaload, 1) := by decide +kernel
theorem dX10_goesOver_42 : decode cX10_goesOver 42 = .ok (.iconst 1, 1) := by decide +kernel
theorem dX10_goesOver_43 : decode cX10_goesOver 43 = .ok (.iadd, 1) := by decide +kernel
theorem dX10_goesOver_44 : decode cX10_goesOver 44 = .ok (.iastore, 1) := by decide +kernel
theorem dX10_goesOver_45 : decode cX10_goesOver 45 = .ok (.return_, 1) := by decide +kernel
theorem dX10_goesBack_0 : decode cX10_goesBack 0 = .ok (.iload_n 2, 1) := by decide +kernel
theorem dX10_goesBack_1 : decode cX10_goesBack 1 = .ok (.ifCond .ge 4, 3) := by decide +kernel
theorem dX10_goesBack_4 : decode cX10_goesBack 4 = .ok (.return_, 1) := by decide +kernel
theorem dX10_goesBack_5 : decode cX10_goesBack 5 = .ok (.aload_n 0, 1) := by decide +kernel
theorem dX10_goesBack_6 : decode cX10_goesBack 6 = .ok (.getfield 39, 3) := by decide +kernel
theorem dX10_goesBack_9 : decode cX10_goesBack 9 = .ok (.bipush 10, 2) := by decide +kernel
theorem dX10_goesBack_11 : decode cX10_goesBack 11 = .ok (.iconst 3, 1) := by decide +kernel
theorem dX10_goesBack_12 : decode cX10_goesBack 12 = .ok (.iload_n 1, 1) := by decide +kernel
theorem dX10_goesBack_13 : decode cX10_goesBack 13 = .ok (.imul, 1) := by decide +kernel
theorem dX10_goesBack_14 : decode cX10_goesBack 14 = .ok (.iadd, 1) := by decide +kernel
theorem dX10_goesBack_15 : decode cX10_goesBack 15 = .ok (.aload_n 0, 1) := by decide +kernel
theorem dX10_goesBack_16 : decode cX10_goesBack 16 = .ok (.iload_n 2, 1) := by decide +kernel
theorem dX10_goesBack_17 : decode cX10_goesBack 17 = .ok (.aload_n 0, 1) := by decide +kernel
theorem dX10_goesBack_18 : decode cX10_goesBack 18 = .ok (.iload_n 1, 1) := by decide +kernel
theorem dX10_goesBack_19 : decode cX10_goesBack 19 = .ok (.iconst 0, 1) := by decide +kernel
theorem dX10_goesBack_20 : decode cX10_goesBack 20 = .ok (.invokevirtual 307, 3) := by decide +kernel
theorem dX10_goesBack_23 : decode cX10_goesBack 23 = .ok (.invokevirtual 336, 3) := by decide +kernel
theorem dX10_goesBack_26 : decode cX10_goesBack 26 = .ok (.iastore, 1) := by decide +kernel
theorem dX10_goesBack_27 : decode cX10_goesBack 27 = .ok (.aload_n 0, 1) := by decide +kernel
theorem dX10_goesBack_28 : decode cX10_goesBack 28 = .ok (.getfield 39, 3) := by decide +kernel
theorem dX10_goesBack_31 : decode cX10_goesBack 31 = .ok (.bipush 22, 2) := by decide +kernel
theorem dX10_goesBack_33 : decode cX10_goesBack 33 = .ok (.bipush 9, 2) := by decide +kernel
theorem dX10_goesBack_35 : decode cX10_goesBack 35 = .ok (.iload_n 1, 1) := by decide +kernel
theorem dX10_goesBack_36 : decode cX10_goesBack 36 = .ok (.imul, 1) := by decide +kernel
theorem dX10_goesBack_37 : decode cX10_goesBack 37 = .ok (.iadd, 1) := by decide +kernel
theorem dX10_goesBack_38 : decode cX10_goesBack 38 = .ok (.iload_n 2, 1) := by decide +kernel
theorem dX10_goesBack_39 : decode cX10_goesBack 39 = .ok (.iadd, 1) := by decide +kernel
theorem dX10_goesBack_40 : decode cX10_goesBack 40 = .ok (.dup2, 1) := by decide +kernel
theorem dX10_goesBack_41 : decode cX10_goesBack 41 = .ok (.iaload, 1) := by decide +kernel
theorem dX10_goesBack_42 : decode cX10_goesBack 42 = .ok (.iconst 1, 1) := by decide +kernel
theorem dX10_goesBack_43 : decode cX10_goesBack 43 = .ok (.isub, 1) := by decide +kernel
theorem dX10_goesBack_44 : decode cX10_goesBack 44 = .ok (.iastore, 1) := by decide +kernel
theorem dX10_goesBack_45 : decode cX10_goesBack 45 = .ok (.return_, 1) := by decide +kernel
theorem dX10_nextBridge_0 : decode cX10_nextBridge 0 = .ok (.iload_n 2, 1) := by decide +kernel
theorem dX10_nextBridge_1 : decode cX10_nextBridge 1 = .ok (.iconst 1, 1) := by decide +kernel
theorem dX10_nextBridge_2 : decode cX10_nextBridge 2 = .ok (.iadd, 1) := by decide +kernel
theorem dX10_nextBridge_3 : decode cX10_nextBridge 3 = .ok (.istore_n 3, 1) := by decide +kernel
theorem dX10_nextBridge_4 : decode cX10_nextBridge 4 = .ok (.iload_n 3, 1) := by decide +kernel
theorem dX10_nextBridge_5 : decode cX10_nextBridge 5 = .ok (.aload_n 0, 1) := by decide +kernel
theorem dX10_nextBridge_6 : decode cX10_nextBridge 6 = .ok (.getfield 39, 3) := by decide +kernel
theorem dX10_nextBridge_9 : decode cX10_nextBridge 9 = .ok (.iconst 2, 1) := by decide +kernel
theorem dX10_nextBridge_10 : decode cX10_nextBridge 10 = .ok (.iaload, 1) := by decide +kernel
theorem dX10_nextBridge_11 : decode cX10_nextBridge 11 = .ok (.if_icmp .ge 18, 3) := by decide +kernel
theorem dX10_nextBridge_14 : decode cX10_nextBridge 14 = .ok (.aload_n 0, 1) := by decide +kernel
theorem dX10_nextBridge_15 : decode cX10_nextBridge 15 = .ok (.iload_n 1, 1) := by decide +kernel
theorem dX10_nextBridge_16 : decode cX10_nextBridge 16 = .ok (.iload_n 3, 1) := by decide +kernel
theorem dX10_nextBridge_17 : decode cX10_nextBridge 17 = .ok (.invokevirtual 339, 3) := by decide +kernel
theorem dX10_nextBridge_20 : decode cX10_nextBridge 20 = .ok (.ifCond .ne 9, 3) := by decide +kernel
theorem dX10_nextBridge_23 : decode cX10_nextBridge 23 = .ok (.iinc 3 1, 3) := by decide +kernel
theorem dX10_nextBridge_26 : decode cX10_nextBridge 26 = .ok (.goto (-22), 3) := by decide +kernel
theorem dX10_nextBridge_29 : decode cX10_nextBridge 29 = .ok (.iload_n 3, 1) := by decide +kernel
theorem dX10_nextBridge_30 : decode cX10_nextBridge 30 = .ok (.ireturn, 1) := by decide +kernel
theorem dX10_keepsRow_0 : decode cX10_keepsRow 0 = .ok (.aload_n 0, 1) := by decide +kernel
theorem dX10_keepsRow_1 : decode cX10_keepsRow 1 = .ok (.iload_n 2, 1) := by decide +kernel
theorem dX10_keepsRow_2 : decode cX10_keepsRow 2 = .ok (.putfield 391, 3) := by decide +kernel
theorem dX10_keepsRow_5 : decode cX10_keepsRow 5 = .ok (.iconst 0, 1) := by decide +kernel
theorem dX10_keepsRow_6 : decode cX10_keepsRow 6 = .ok (.istore_n 3, 1) := by decide +kernel
theorem dX10_keepsRow_7 : decode cX10_keepsRow 7 = .ok (.iload_n 3, 1) := by decide +kernel
theorem dX10_keepsRow_8 : decode cX10_keepsRow 8 = .ok (.iload_n 1, 1) := by decide +kernel
theorem dX10_keepsRow_9 : decode cX10_keepsRow 9 = .ok (.if_icmp .ge 21, 3) := by decide +kernel
theorem dX10_keepsRow_12 : decode cX10_keepsRow 12 = .ok (.aload_n 0, 1) := by decide +kernel
theorem dX10_keepsRow_13 : decode cX10_keepsRow 13 = .ok (.getfield 54, 3) := by decide +kernel
theorem dX10_keepsRow_16 : decode cX10_keepsRow 16 = .ok (.iload_n 3, 1) := by decide +kernel
theorem dX10_keepsRow_17 : decode cX10_keepsRow 17 = .ok (.aload_n 0, 1) := by decide +kernel
theorem dX10_keepsRow_18 : decode cX10_keepsRow 18 = .ok (.getfield 51, 3) := by decide +kernel
theorem dX10_keepsRow_21 : decode cX10_keepsRow 21 = .ok (.iload_n 3, 1) := by decide +kernel
theorem dX10_keepsRow_22 : decode cX10_keepsRow 22 = .ok (.iaload, 1) := by decide +kernel
theorem dX10_keepsRow_23 : decode cX10_keepsRow 23 = .ok (.iastore, 1) := by decide +kernel
theorem dX10_keepsRow_24 : decode cX10_keepsRow 24 = .ok (.iinc 3 1, 3) := by decide +kernel
theorem dX10_keepsRow_27 : decode cX10_keepsRow 27 = .ok (.goto (-20), 3) := by decide +kernel
theorem dX10_keepsRow_30 : decode cX10_keepsRow 30 = .ok (.return_, 1) := by decide +kernel
theorem dX10_findsLife_0 : decode cX10_findsLife 0 = .ok (.iconst 0, 1) := by decide +kernel
theorem dX10_findsLife_1 : decode cX10_findsLife 1 = .ok (.istore_n 3, 1) := by decide +kernel
theorem dX10_findsLife_2 : decode cX10_findsLife 2 = .ok (.iconst 0, 1) := by decide +kernel
theorem dX10_findsLife_3 : decode cX10_findsLife 3 = .ok (.istore 4, 2) := by decide +kernel
theorem dX10_findsLife_5 : decode cX10_findsLife 5 = .ok (.aload_n 0, 1) := by decide +kernel
theorem dX10_findsLife_6 : decode cX10_findsLife 6 = .ok (.iconst (-1), 1) := by decide +kernel
theorem dX10_findsLife_7 : decode cX10_findsLife 7 = .ok (.putfield 391, 3) := by decide +kernel
theorem dX10_findsLife_10 : decode cX10_findsLife 10 = .ok (.aload_n 0, 1) := by decide +kernel
theorem dX10_findsLife_11 : decode cX10_findsLife 11 = .ok (.getfield 51, 3) := by decide +kernel
theorem dX10_findsLife_14 : decode cX10_findsLife 14 = .ok (.iconst 0, 1) := by decide +kernel
theorem dX10_findsLife_15 : decode cX10_findsLife 15 = .ok (.bipush (-2), 2) := by decide +kernel
theorem dX10_findsLife_17 : decode cX10_findsLife 17 = .ok (.iastore, 1) := by decide +kernel
theorem dX10_findsLife_18 : decode cX10_findsLife 18 = .ok (.iload 4, 2) := by decide +kernel
theorem dX10_findsLife_20 : decode cX10_findsLife 20 = .ok (.ifCond .lt 207, 3) := by decide +kernel
theorem dX10_findsLife_23 : decode cX10_findsLife 23 = .ok (.aload_n 0, 1) := by decide +kernel
theorem dX10_findsLife_24 : decode cX10_findsLife 24 = .ok (.getfield 51, 3) := by decide +kernel
theorem dX10_findsLife_27 : decode cX10_findsLife 27 = .ok (.iload 4, 2) := by decide +kernel
theorem dX10_findsLife_29 : decode cX10_findsLife 29 = .ok (.iaload, 1) := by decide +kernel
theorem dX10_findsLife_30 : decode cX10_findsLife 30 = .ok (.iconst (-1), 1) := by decide +kernel
theorem dX10_findsLife_31 : decode cX10_findsLife 31 = .ok (.if_icmp .lt 39, 3) := by decide +kernel
theorem dX10_findsLife_34 : decode cX10_findsLife 34 = .ok (.iload_n 3, 1) := by decide +kernel
theorem dX10_findsLife_35 : decode cX10_findsLife 35 = .ok (.aload_n 0, 1) := by decide +kernel
theorem dX10_findsLife_36 : decode cX10_findsLife 36 = .ok (.iload_n 1, 1) := by decide +kernel
theorem dX10_findsLife_37 : decode cX10_findsLife 37 = .ok (.aload_n 0, 1) := by decide +kernel
theorem dX10_findsLife_38 : decode cX10_findsLife 38 = .ok (.iload_n 1, 1) := by decide +kernel
theorem dX10_findsLife_39 : decode cX10_findsLife 39 = .ok (.iconst 0, 1) := by decide +kernel
theorem dX10_findsLife_40 : decode cX10_findsLife 40 = .ok (.invokevirtual 307, 3) := by decide +kernel
theorem dX10_findsLife_43 : decode cX10_findsLife 43 = .ok (.aload_n 0, 1) := by decide +kernel
theorem dX10_findsLife_44 : decode cX10_findsLife 44 = .ok (.getfield 39, 3) := by decide +kernel
theorem dX10_findsLife_47 : decode cX10_findsLife 47 = .ok (.bipush 6, 2) := by decide +kernel
theorem dX10_findsLife_49 : decode cX10_findsLife 49 = .ok (.iaload, 1) := by decide +kernel
theorem dX10_findsLife_50 : decode cX10_findsLife 50 = .ok (.iload 4, 2) := by decide +kernel
theorem dX10_findsLife_52 : decode cX10_findsLife 52 = .ok (.iadd, 1) := by decide +kernel
theorem dX10_findsLife_53 : decode cX10_findsLife 53 = .ok (.invokevirtual 354, 3) := by decide +kernel
theorem dX10_findsLife_56 : decode cX10_findsLife 56 = .ok (.isub, 1) := by decide +kernel
theorem dX10_findsLife_57 : decode cX10_findsLife 57 = .ok (.istore_n 3, 1) := by decide +kernel
theorem dX10_findsLife_58 : decode cX10_findsLife 58 = .ok (.aload_n 0, 1) := by decide +kernel
theorem dX10_findsLife_59 : decode cX10_findsLife 59 = .ok (.iload_n 1, 1) := by decide +kernel
theorem dX10_findsLife_60 : decode cX10_findsLife 60 = .ok (.aload_n 0, 1) := by decide +kernel
theorem dX10_findsLife_61 : decode cX10_findsLife 61 = .ok (.getfield 51, 3) := by decide +kernel
theorem dX10_findsLife_64 : decode cX10_findsLife 64 = .ok (.iload 4, 2) := by decide +kernel
theorem dX10_findsLife_66 : decode cX10_findsLife 66 = .ok (.iaload, 1) := by decide +kernel
theorem dX10_findsLife_67 : decode cX10_findsLife 67 = .ok (.invokevirtual 394, 3) := by decide +kernel
theorem dX10_findsLife_70 : decode cX10_findsLife 70 = .ok (.aload_n 0, 1) := by decide +kernel
theorem dX10_findsLife_71 : decode cX10_findsLife 71 = .ok (.getfield 51, 3) := by decide +kernel
theorem dX10_findsLife_74 : decode cX10_findsLife 74 = .ok (.iload 4, 2) := by decide +kernel
theorem dX10_findsLife_76 : decode cX10_findsLife 76 = .ok (.aload_n 0, 1) := by decide +kernel
theorem dX10_findsLife_77 : decode cX10_findsLife 77 = .ok (.getfield 51, 3) := by decide +kernel
theorem dX10_findsLife_80 : decode cX10_findsLife 80 = .ok (.iload 4, 2) := by decide +kernel
theorem dX10_findsLife_82 : decode cX10_findsLife 82 = .ok (.iaload, 1) := by decide +kernel
theorem dX10_findsLife_83 : decode cX10_findsLife 83 = .ok (.bipush (-2), 2) := by decide +kernel
theorem dX10_findsLife_85 : decode cX10_findsLife 85 = .ok (.if_icmp .ne 7, 3) := by decide +kernel
theorem dX10_findsLife_88 : decode cX10_findsLife 88 = .ok (.iconst (-1), 1) := by decide +kernel
theorem dX10_findsLife_89 : decode cX10_findsLife 89 = .ok (.goto 15, 3) := by decide +kernel
theorem dX10_findsLife_92 : decode cX10_findsLife 92 = .ok (.aload_n 0, 1) := by decide +kernel
theorem dX10_findsLife_93 : decode cX10_findsLife 93 = .ok (.iload_n 1, 1) := by decide +kernel
theorem dX10_findsLife_94 : decode cX10_findsLife 94 = .ok (.aload_n 0, 1) := by decide +kernel
theorem dX10_findsLife_95 : decode cX10_findsLife 95 = .ok (.getfield 51, 3) := by decide +kernel
theorem dX10_findsLife_98 : decode cX10_findsLife 98 = .ok (.iload 4, 2) := by decide +kernel
theorem dX10_findsLife_100 : decode cX10_findsLife 100 = .ok (.iaload, 1) := by decide +kernel
theorem dX10_findsLife_101 : decode cX10_findsLife 101 = .ok (.invokevirtual 397, 3) := by decide +kernel
theorem dX10_findsLife_104 : decode cX10_findsLife 104 = .ok (.iastore, 1) := by decide +kernel
theorem dX10_findsLife_105 : decode cX10_findsLife 105 = .ok (.aload_n 0, 1) := by decide +kernel
theorem dX10_findsLife_106 : decode cX10_findsLife 106 = .ok (.getfield 51, 3) := by decide +kernel
theorem dX10_findsLife_109 : decode cX10_findsLife 109 = .ok (.iload 4, 2) := by decide +kernel
theorem dX10_findsLife_111 : decode cX10_findsLife 111 = .ok (.iaload, 1) := by decide +kernel
theorem dX10_findsLife_112 : decode cX10_findsLife 112 = .ok (.aload_n 0, 1) := by decide +kernel
theorem dX10_findsLife_113 : decode cX10_findsLife 113 = .ok (.getfield 39, 3) := by decide +kernel
theorem dX10_findsLife_116 : decode cX10_findsLife 116 = .ok (.iconst 2, 1) := by decide +kernel
theorem dX10_findsLife_117 : decode cX10_findsLife 117 = .ok (.iaload, 1) := by decide +kernel
theorem dX10_findsLife_118 : decode cX10_findsLife 118 = .ok (.if_icmp .ne 18, 3) := by decide +kernel
theorem dX10_findsLife_121 : decode cX10_findsLife 121 = .ok (.aload_n 0, 1) := by decide +kernel
theorem dX10_findsLife_122 : decode cX10_findsLife 122 = .ok (.getfield 51, 3) := by decide +kernel
theorem dX10_findsLife_125 : decode cX10_findsLife 125 = .ok (.iload 4, 2) := by decide +kernel
theorem dX10_findsLife_127 : decode cX10_findsLife 127 = .ok (.bipush (-2), 2) := by decide +kernel
theorem dX10_findsLife_129 : decode cX10_findsLife 129 = .ok (.iastore, 1) := by decide +kernel
theorem dX10_findsLife_130 : decode cX10_findsLife 130 = .ok (.iinc 4 (-1), 3) := by decide +kernel
theorem dX10_findsLife_133 : decode cX10_findsLife 133 = .ok (.goto (-115), 3) := by decide +kernel
theorem dX10_findsLife_136 : decode cX10_findsLife 136 = .ok (.aload_n 0, 1) := by decide +kernel
theorem dX10_findsLife_137 : decode cX10_findsLife 137 = .ok (.iload_n 1, 1) := by decide +kernel
theorem dX10_findsLife_138 : decode cX10_findsLife 138 = .ok (.aload_n 0, 1) := by decide +kernel
theorem dX10_findsLife_139 : decode cX10_findsLife 139 = .ok (.getfield 51, 3) := by decide +kernel
theorem dX10_findsLife_142 : decode cX10_findsLife 142 = .ok (.iload 4, 2) := by decide +kernel
theorem dX10_findsLife_144 : decode cX10_findsLife 144 = .ok (.iaload, 1) := by decide +kernel
theorem dX10_findsLife_145 : decode cX10_findsLife 145 = .ok (.invokevirtual 400, 3) := by decide +kernel
theorem dX10_findsLife_148 : decode cX10_findsLife 148 = .ok (.iload_n 3, 1) := by decide +kernel
theorem dX10_findsLife_149 : decode cX10_findsLife 149 = .ok (.aload_n 0, 1) := by decide +kernel
theorem dX10_findsLife_150 : decode cX10_findsLife 150 = .ok (.iload_n 1, 1) := by decide +kernel
theorem dX10_findsLife_151 : decode cX10_findsLife 151 = .ok (.aload_n 0, 1) := by decide +kernel
theorem dX10_findsLife_152 : decode cX10_findsLife 152 = .ok (.iload_n 1, 1) := by decide +kernel
theorem dX10_findsLife_153 : decode cX10_findsLife 153 = .ok (.iconst 0, 1) := by decide +kernel
theorem dX10_findsLife_154 : decode cX10_findsLife 154 = .ok (.invokevirtual 307, 3) := by decide +kernel
theorem dX10_findsLife_157 : decode cX10_findsLife 157 = .ok (.aload_n 0, 1) := by decide +kernel
theorem dX10_findsLife_158 : decode cX10_findsLife 158 = .ok (.getfield 39, 3) := by decide +kernel
theorem dX10_findsLife_161 : decode cX10_findsLife 161 = .ok (.bipush 6, 2) := by decide +kernel
theorem dX10_findsLife_163 : decode cX10_findsLife 163 = .ok (.iaload, 1) := by decide +kernel
theorem dX10_findsLife_164 : decode cX10_findsLife 164 = .ok (.iload 4, 2) := by decide +kernel
theorem dX10_findsLife_166 : decode cX10_findsLife 166 = .ok (.iadd, 1) := by decide +kernel
theorem dX10_findsLife_167 : decode cX10_findsLife 167 = .ok (.invokevirtual 354, 3) := by decide +kernel
theorem dX10_findsLife_170 : decode cX10_findsLife 170 = .ok (.iadd, 1) := by decide +kernel
theorem dX10_findsLife_171 : decode cX10_findsLife 171 = .ok (.istore_n 3, 1) := by decide +kernel
theorem dX10_findsLife_172 : decode cX10_findsLife 172 = .ok (.iload 4, 2) := by decide +kernel
theorem dX10_findsLife_174 : decode cX10_findsLife 174 = .ok (.iload_n 2, 1) := by decide +kernel
theorem dX10_findsLife_175 : decode cX10_findsLife 175 = .ok (.iconst 1, 1) := by decide +kernel
theorem dX10_findsLife_176 : decode cX10_findsLife 176 = .ok (.isub, 1) := by decide +kernel
theorem dX10_findsLife_177 : decode cX10_findsLife 177 = .ok (.if_icmp .ge 18, 3) := by decide +kernel
theorem dX10_findsLife_180 : decode cX10_findsLife 180 = .ok (.iinc 4 1, 3) := by decide +kernel
theorem dX10_findsLife_183 : decode cX10_findsLife 183 = .ok (.aload_n 0, 1) := by decide +kernel
theorem dX10_findsLife_184 : decode cX10_findsLife 184 = .ok (.getfield 51, 3) := by decide +kernel
theorem dX10_findsLife_187 : decode cX10_findsLife 187 = .ok (.iload 4, 2) := by decide +kernel
theorem dX10_findsLife_189 : decode cX10_findsLife 189 = .ok (.bipush (-2), 2) := by decide +kernel
theorem dX10_findsLife_191 : decode cX10_findsLife 191 = .ok (.iastore, 1) := by decide +kernel
theorem dX10_findsLife_192 : decode cX10_findsLife 192 = .ok (.goto (-174), 3) := by decide +kernel
theorem dX10_findsLife_195 : decode cX10_findsLife 195 = .ok (.aload_n 0, 1) := by decide +kernel
theorem dX10_findsLife_196 : decode cX10_findsLife 196 = .ok (.iload_n 1, 1) := by decide +kernel
theorem dX10_findsLife_197 : decode cX10_findsLife 197 = .ok (.iconst 0, 1) := by decide +kernel
theorem dX10_findsLife_198 : decode cX10_findsLife 198 = .ok (.invokevirtual 307, 3) := by decide +kernel
theorem dX10_findsLife_201 : decode cX10_findsLife 201 = .ok (.aload_n 0, 1) := by decide +kernel
theorem dX10_findsLife_202 : decode cX10_findsLife 202 = .ok (.iload_n 1, 1) := by decide +kernel
theorem dX10_findsLife_203 : decode cX10_findsLife 203 = .ok (.iconst 1, 1) := by decide +kernel
theorem dX10_findsLife_204 : decode cX10_findsLife 204 = .ok (.invokevirtual 307, 3) := by decide +kernel
theorem dX10_findsLife_207 : decode cX10_findsLife 207 = .ok (.if_icmp .ne (-189), 3) := by decide +kernel
theorem dX10_findsLife_210 : decode cX10_findsLife 210 = .ok (.iload_n 3, 1) := by decide +kernel
theorem dX10_findsLife_211 : decode cX10_findsLife 211 = .ok (.aload_n 0, 1) := by decide +kernel
theorem dX10_findsLife_212 : decode cX10_findsLife 212 = .ok (.getfield 391, 3) := by decide +kernel
theorem dX10_findsLife_215 : decode cX10_findsLife 215 = .ok (.if_icmp .le (-197), 3) := by decide +kernel
theorem dX10_findsLife_218 : decode cX10_findsLife 218 = .ok (.aload_n 0, 1) := by decide +kernel
theorem dX10_findsLife_219 : decode cX10_findsLife 219 = .ok (.iload_n 2, 1) := by decide +kernel
theorem dX10_findsLife_220 : decode cX10_findsLife 220 = .ok (.iload_n 3, 1) := by decide +kernel
theorem dX10_findsLife_221 : decode cX10_findsLife 221 = .ok (.invokevirtual 403, 3) := by decide +kernel
theorem dX10_findsLife_224 : decode cX10_findsLife 224 = .ok (.goto (-206), 3) := by decide +kernel
theorem dX10_findsLife_227 : decode cX10_findsLife 227 = .ok (.return_, 1) := by decide +kernel
theorem dX10_life_0 : decode cX10_life 0 = .ok (.aload_n 0, 1) := by decide +kernel
theorem dX10_life_1 : decode cX10_life 1 = .ok (.iload_n 1, 1) := by decide +kernel
theorem dX10_life_2 : decode cX10_life 2 = .ok (.invokevirtual 316, 3) := by decide +kernel
theorem dX10_life_5 : decode cX10_life 5 = .ok (.ifCond .eq 27, 3) := by decide +kernel
theorem dX10_life_8 : decode cX10_life 8 = .ok (.iload_n 2, 1) := by decide +kernel
theorem dX10_life_9 : decode cX10_life 9 = .ok (.i2l, 1) := by decide +kernel
theorem dX10_life_10 : decode cX10_life 10 = .ok (.lconst 1, 1) := by decide +kernel
theorem dX10_life_11 : decode cX10_life 11 = .ok (.ldc2_w 406, 3) := by decide +kernel
theorem dX10_life_14 : decode cX10_life 14 = .ok (.invokestatic 118, 3) := by decide +kernel
theorem dX10_life_17 : decode cX10_life 17 = .ok (.ifCond .eq 15, 3) := by decide +kernel
theorem dX10_life_20 : decode cX10_life 20 = .ok (.iload_n 3, 1) := by decide +kernel
theorem dX10_life_21 : decode cX10_life 21 = .ok (.i2l, 1) := by decide +kernel
theorem dX10_life_22 : decode cX10_life 22 = .ok (.lconst 0, 1) := by decide +kernel
theorem dX10_life_23 : decode cX10_life 23 = .ok (.ldc2_w 406, 3) := by decide +kernel
theorem dX10_life_26 : decode cX10_life 26 = .ok (.invokestatic 118, 3) := by decide +kernel
theorem dX10_life_29 : decode cX10_life 29 = .ok (.ifCond .ne 6, 3) := by decide +kernel
theorem dX10_life_32 : decode cX10_life 32 = .ok (.bipush (-3), 2) := by decide +kernel
theorem dX10_life_34 : decode cX10_life 34 = .ok (.ireturn, 1) := by decide +kernel
theorem dX10_life_35 : decode cX10_life 35 = .ok (.aload_n 0, 1) := by decide +kernel
theorem dX10_life_36 : decode cX10_life 36 = .ok (.iload_n 1, 1) := by decide +kernel
theorem dX10_life_37 : decode cX10_life 37 = .ok (.iload_n 2, 1) := by decide +kernel
theorem dX10_life_38 : decode cX10_life 38 = .ok (.invokevirtual 408, 3) := by decide +kernel
theorem dX10_life_41 : decode cX10_life 41 = .ok (.aload_n 0, 1) := by decide +kernel
theorem dX10_life_42 : decode cX10_life 42 = .ok (.getfield 391, 3) := by decide +kernel
theorem dX10_life_45 : decode cX10_life 45 = .ok (.ifCond .ge 6, 3) := by decide +kernel
theorem dX10_life_48 : decode cX10_life 48 = .ok (.bipush (-2), 2) := by decide +kernel
theorem dX10_life_50 : decode cX10_life 50 = .ok (.ireturn, 1) := by decide +kernel
theorem dX10_life_51 : decode cX10_life 51 = .ok (.iload_n 3, 1) := by decide +kernel
theorem dX10_life_52 : decode cX10_life 52 = .ok (.ifCond .ne 10, 3) := by decide +kernel
theorem dX10_life_55 : decode cX10_life 55 = .ok (.aload_n 0, 1) := by decide +kernel
theorem dX10_life_56 : decode cX10_life 56 = .ok (.getfield 391, 3) := by decide +kernel
theorem dX10_life_59 : decode cX10_life 59 = .ok (.goto 21, 3) := by decide +kernel
theorem dX10_life_62 : decode cX10_life 62 = .ok (.iload_n 3, 1) := by decide +kernel
theorem dX10_life_63 : decode cX10_life 63 = .ok (.iload_n 2, 1) := by decide +kernel
theorem dX10_life_64 : decode cX10_life 64 = .ok (.if_icmp .le 8, 3) := by decide +kernel
theorem dX10_life_67 : decode cX10_life 67 = .ok (.bipush (-2), 2) := by decide +kernel
theorem dX10_life_69 : decode cX10_life 69 = .ok (.goto 11, 3) := by decide +kernel
theorem dX10_life_72 : decode cX10_life 72 = .ok (.aload_n 0, 1) := by decide +kernel
theorem dX10_life_73 : decode cX10_life 73 = .ok (.getfield 54, 3) := by decide +kernel
theorem dX10_life_76 : decode cX10_life 76 = .ok (.iload_n 3, 1) := by decide +kernel
theorem dX10_life_77 : decode cX10_life 77 = .ok (.iconst 1, 1) := by decide +kernel
theorem dX10_life_78 : decode cX10_life 78 = .ok (.isub, 1) := by decide +kernel
theorem dX10_life_79 : decode cX10_life 79 = .ok (.iaload, 1) := by decide +kernel
theorem dX10_life_80 : decode cX10_life 80 = .ok (.ireturn, 1) := by decide +kernel
theorem dX10_lifeOf_0 : decode cX10_lifeOf 0 = .ok (.aload_n 0, 1) := by decide +kernel
theorem dX10_lifeOf_1 : decode cX10_lifeOf 1 = .ok (.iload_n 1, 1) := by decide +kernel
theorem dX10_lifeOf_2 : decode cX10_lifeOf 2 = .ok (.iload_n 2, 1) := by decide +kernel
theorem dX10_lifeOf_3 : decode cX10_lifeOf 3 = .ok (.invokevirtual 408, 3) := by decide +kernel
theorem dX10_lifeOf_6 : decode cX10_lifeOf 6 = .ok (.aload_n 0, 1) := by decide +kernel
theorem dX10_lifeOf_7 : decode cX10_lifeOf 7 = .ok (.getfield 391, 3) := by decide +kernel
theorem dX10_lifeOf_10 : decode cX10_lifeOf 10 = .ok (.ifCond .ge 7, 3) := by decide +kernel
theorem dX10_lifeOf_13 : decode cX10_lifeOf 13 = .ok (.iconst 0, 1) := by decide +kernel
theorem dX10_lifeOf_14 : decode cX10_lifeOf 14 = .ok (.goto 7, 3) := by decide +kernel
theorem dX10_lifeOf_17 : decode cX10_lifeOf 17 = .ok (.aload_n 0, 1) := by decide +kernel
theorem dX10_lifeOf_18 : decode cX10_lifeOf 18 = .ok (.getfield 391, 3) := by decide +kernel
theorem dX10_lifeOf_21 : decode cX10_lifeOf 21 = .ok (.ireturn, 1) := by decide +kernel
theorem dX10_worth_0 : decode cX10_worth 0 = .ok (.aload_n 0, 1) := by decide +kernel
theorem dX10_worth_1 : decode cX10_worth 1 = .ok (.iload_n 1, 1) := by decide +kernel
theorem dX10_worth_2 : decode cX10_worth 2 = .ok (.invokevirtual 316, 3) := by decide +kernel
theorem dX10_worth_5 : decode cX10_worth 5 = .ok (.ifCond .eq 23, 3) := by decide +kernel
theorem dX10_worth_8 : decode cX10_worth 8 = .ok (.aload_n 0, 1) := by decide +kernel
theorem dX10_worth_9 : decode cX10_worth 9 = .ok (.iload_n 2, 1) := by decide +kernel
theorem dX10_worth_10 : decode cX10_worth 10 = .ok (.invokevirtual 328, 3) := by decide +kernel
theorem dX10_worth_13 : decode cX10_worth 13 = .ok (.ifCond .eq 15, 3) := by decide +kernel
theorem dX10_worth_16 : decode cX10_worth 16 = .ok (.iload_n 3, 1) := by decide +kernel
theorem dX10_worth_17 : decode cX10_worth 17 = .ok (.i2l, 1) := by decide +kernel
theorem dX10_worth_18 : decode cX10_worth 18 = .ok (.lconst 1, 1) := by decide +kernel
theorem dX10_worth_19 : decode cX10_worth 19 = .ok (.ldc2_w 406, 3) := by decide +kernel
theorem dX10_worth_22 : decode cX10_worth 22 = .ok (.invokestatic 118, 3) := by decide +kernel
theorem dX10_worth_25 : decode cX10_worth 25 = .ok (.ifCond .ne 5, 3) := by decide +kernel
theorem dX10_worth_28 : decode cX10_worth 28 = .ok (.iconst (-1), 1) := by decide +kernel
theorem dX10_worth_29 : decode cX10_worth 29 = .ok (.ireturn, 1) := by decide +kernel
theorem dX10_worth_30 : decode cX10_worth 30 = .ok (.aload_n 0, 1) := by decide +kernel
theorem dX10_worth_31 : decode cX10_worth 31 = .ok (.iload_n 1, 1) := by decide +kernel
theorem dX10_worth_32 : decode cX10_worth 32 = .ok (.iload_n 3, 1) := by decide +kernel
theorem dX10_worth_33 : decode cX10_worth 33 = .ok (.invokevirtual 411, 3) := by decide +kernel
theorem dX10_worth_36 : decode cX10_worth 36 = .ok (.istore 4, 2) := by decide +kernel
theorem dX10_worth_38 : decode cX10_worth 38 = .ok (.aload_n 0, 1) := by decide +kernel
theorem dX10_worth_39 : decode cX10_worth 39 = .ok (.getfield 42, 3) := by decide +kernel
theorem dX10_worth_42 : decode cX10_worth 42 = .ok (.iload_n 2, 1) := by decide +kernel
theorem dX10_worth_43 : decode cX10_worth 43 = .ok (.iconst 1, 1) := by decide +kernel
theorem dX10_worth_44 : decode cX10_worth 44 = .ok (.iastore, 1) := by decide +kernel
theorem dX10_worth_45 : decode cX10_worth 45 = .ok (.aload_n 0, 1) := by decide +kernel
theorem dX10_worth_46 : decode cX10_worth 46 = .ok (.iload_n 1, 1) := by decide +kernel
theorem dX10_worth_47 : decode cX10_worth 47 = .ok (.iload_n 3, 1) := by decide +kernel
theorem dX10_worth_48 : decode cX10_worth 48 = .ok (.invokevirtual 411, 3) := by decide +kernel
theorem dX10_worth_51 : decode cX10_worth 51 = .ok (.istore 5, 2) := by decide +kernel
theorem dX10_worth_53 : decode cX10_worth 53 = .ok (.aload_n 0, 1) := by decide +kernel
theorem dX10_worth_54 : decode cX10_worth 54 = .ok (.getfield 42, 3) := by decide +kernel
theorem dX10_worth_57 : decode cX10_worth 57 = .ok (.iload_n 2, 1) := by decide +kernel
theorem dX10_worth_58 : decode cX10_worth 58 = .ok (.iconst 0, 1) := by decide +kernel
theorem dX10_worth_59 : decode cX10_worth 59 = .ok (.iastore, 1) := by decide +kernel
theorem dX10_worth_60 : decode cX10_worth 60 = .ok (.iload 5, 2) := by decide +kernel
theorem dX10_worth_62 : decode cX10_worth 62 = .ok (.iload 4, 2) := by decide +kernel
theorem dX10_worth_64 : decode cX10_worth 64 = .ok (.isub, 1) := by decide +kernel
theorem dX10_worth_65 : decode cX10_worth 65 = .ok (.ireturn, 1) := by decide +kernel
theorem dX10_more_0 : decode cX10_more 0 = .ok (.aload_n 0, 1) := by decide +kernel
theorem dX10_more_1 : decode cX10_more 1 = .ok (.iload_n 1, 1) := by decide +kernel
theorem dX10_more_2 : decode cX10_more 2 = .ok (.invokevirtual 316, 3) := by decide +kernel
theorem dX10_more_5 : decode cX10_more 5 = .ok (.ifCond .eq 15, 3) := by decide +kernel
theorem dX10_more_8 : decode cX10_more 8 = .ok (.iload_n 2, 1) := by decide +kernel
theorem dX10_more_9 : decode cX10_more 9 = .ok (.i2l, 1) := by decide +kernel
theorem dX10_more_10 : decode cX10_more 10 = .ok (.lconst 1, 1) := by decide +kernel
theorem dX10_more_11 : decode cX10_more 11 = .ok (.ldc2_w 406, 3) := by decide +kernel
theorem dX10_more_14 : decode cX10_more 14 = .ok (.invokestatic 118, 3) := by decide +kernel
theorem dX10_more_17 : decode cX10_more 17 = .ok (.ifCond .ne 5, 3) := by decide +kernel
theorem dX10_more_20 : decode cX10_more 20 = .ok (.iconst (-1), 1) := by decide +kernel
theorem dX10_more_21 : decode cX10_more 21 = .ok (.ireturn, 1) := by decide +kernel
theorem dX10_more_22 : decode cX10_more 22 = .ok (.aload_n 0, 1) := by decide +kernel
theorem dX10_more_23 : decode cX10_more 23 = .ok (.iload_n 1, 1) := by decide +kernel
theorem dX10_more_24 : decode cX10_more 24 = .ok (.iload_n 2, 1) := by decide +kernel
theorem dX10_more_25 : decode cX10_more 25 = .ok (.invokevirtual 411, 3) := by decide +kernel
theorem dX10_more_28 : decode cX10_more 28 = .ok (.istore_n 3, 1) := by decide +kernel
theorem dX10_more_29 : decode cX10_more 29 = .ok (.iconst 0, 1) := by decide +kernel
theorem dX10_more_30 : decode cX10_more 30 = .ok (.istore 4, 2) := by decide +kernel
theorem dX10_more_32 : decode cX10_more 32 = .ok (.iload 4, 2) := by decide +kernel
theorem dX10_more_34 : decode cX10_more 34 = .ok (.bipush 9, 2) := by decide +kernel
theorem dX10_more_36 : decode cX10_more 36 = .ok (.if_icmp .ge 17, 3) := by decide +kernel
theorem dX10_more_39 : decode cX10_more 39 = .ok (.aload_n 0, 1) := by decide +kernel
theorem dX10_more_40 : decode cX10_more 40 = .ok (.getfield 42, 3) := by decide +kernel
theorem dX10_more_43 : decode cX10_more 43 = .ok (.iload 4, 2) := by decide +kernel
theorem dX10_more_45 : decode cX10_more 45 = .ok (.iconst 1, 1) := by decide +kernel
theorem dX10_more_46 : decode cX10_more 46 = .ok (.iastore, 1) := by decide +kernel
theorem dX10_more_47 : decode cX10_more 47 = .ok (.iinc 4 1, 3) := by decide +kernel
theorem dX10_more_50 : decode cX10_more 50 = .ok (.goto (-18), 3) := by decide +kernel
theorem dX10_more_53 : decode cX10_more 53 = .ok (.aload_n 0, 1) := by decide +kernel
theorem dX10_more_54 : decode cX10_more 54 = .ok (.iload_n 1, 1) := by decide +kernel
theorem dX10_more_55 : decode cX10_more 55 = .ok (.iload_n 2, 1) := by decide +kernel
theorem dX10_more_56 : decode cX10_more 56 = .ok (.invokevirtual 411, 3) := by decide +kernel
theorem dX10_more_59 : decode cX10_more 59 = .ok (.istore 4, 2) := by decide +kernel
theorem dX10_more_61 : decode cX10_more 61 = .ok (.iconst 0, 1) := by decide +kernel
theorem dX10_more_62 : decode cX10_more 62 = .ok (.istore 5, 2) := by decide +kernel
theorem dX10_more_64 : decode cX10_more 64 = .ok (.iload 5, 2) := by decide +kernel
theorem dX10_more_66 : decode cX10_more 66 = .ok (.bipush 9, 2) := by decide +kernel
theorem dX10_more_68 : decode cX10_more 68 = .ok (.if_icmp .ge 17, 3) := by decide +kernel
theorem dX10_more_71 : decode cX10_more 71 = .ok (.aload_n 0, 1) := by decide +kernel
theorem dX10_more_72 : decode cX10_more 72 = .ok (.getfield 42, 3) := by decide +kernel
theorem dX10_more_75 : decode cX10_more 75 = .ok (.iload 5, 2) := by decide +kernel
theorem dX10_more_77 : decode cX10_more 77 = .ok (.iconst 0, 1) := by decide +kernel
theorem dX10_more_78 : decode cX10_more 78 = .ok (.iastore, 1) := by decide +kernel
theorem dX10_more_79 : decode cX10_more 79 = .ok (.iinc 5 1, 3) := by decide +kernel
theorem dX10_more_82 : decode cX10_more 82 = .ok (.goto (-18), 3) := by decide +kernel
theorem dX10_more_85 : decode cX10_more 85 = .ok (.iload 4, 2) := by decide +kernel
theorem dX10_more_87 : decode cX10_more 87 = .ok (.iload_n 3, 1) := by decide +kernel
theorem dX10_more_88 : decode cX10_more 88 = .ok (.isub, 1) := by decide +kernel
theorem dX10_more_89 : decode cX10_more 89 = .ok (.ireturn, 1) := by decide +kernel
theorem dX10_meet_0 : decode cX10_meet 0 = .ok (.aload_n 0, 1) := by decide +kernel
theorem dX10_meet_1 : decode cX10_meet 1 = .ok (.iload_n 1, 1) := by decide +kernel
theorem dX10_meet_2 : decode cX10_meet 2 = .ok (.invokevirtual 316, 3) := by decide +kernel
theorem dX10_meet_5 : decode cX10_meet 5 = .ok (.ifCond .eq 26, 3) := by decide +kernel
theorem dX10_meet_8 : decode cX10_meet 8 = .ok (.aload_n 0, 1) := by decide +kernel
theorem dX10_meet_9 : decode cX10_meet 9 = .ok (.iload_n 2, 1) := by decide +kernel
theorem dX10_meet_10 : decode cX10_meet 10 = .ok (.invokevirtual 316, 3) := by decide +kernel
theorem dX10_meet_13 : decode cX10_meet 13 = .ok (.ifCond .eq 18, 3) := by decide +kernel
theorem dX10_meet_16 : decode cX10_meet 16 = .ok (.iload_n 1, 1) := by decide +kernel
theorem dX10_meet_17 : decode cX10_meet 17 = .ok (.iload_n 2, 1) := by decide +kernel
theorem dX10_meet_18 : decode cX10_meet 18 = .ok (.if_icmp .eq 13, 3) := by decide +kernel
theorem dX10_meet_21 : decode cX10_meet 21 = .ok (.iload_n 3, 1) := by decide +kernel
theorem dX10_meet_22 : decode cX10_meet 22 = .ok (.i2l, 1) := by decide +kernel
theorem dX10_meet_23 : decode cX10_meet 23 = .ok (.lconst 0, 1) := by decide +kernel
theorem dX10_meet_24 : decode cX10_meet 24 = .ok (.lconst 1, 1) := by decide +kernel
theorem dX10_meet_25 : decode cX10_meet 25 = .ok (.invokestatic 118, 3) := by decide +kernel
theorem dX10_meet_28 : decode cX10_meet 28 = .ok (.ifCond .ne 5, 3) := by decide +kernel
theorem dX10_meet_31 : decode cX10_meet 31 = .ok (.iconst (-1), 1) := by decide +kernel
theorem dX10_meet_32 : decode cX10_meet 32 = .ok (.ireturn, 1) := by decide +kernel
theorem dX10_meet_33 : decode cX10_meet 33 = .ok (.bipush (-2), 2) := by decide +kernel
theorem dX10_meet_35 : decode cX10_meet 35 = .ok (.istore 4, 2) := by decide +kernel
theorem dX10_meet_37 : decode cX10_meet 37 = .ok (.bipush (-2), 2) := by decide +kernel
theorem dX10_meet_39 : decode cX10_meet 39 = .ok (.istore 5, 2) := by decide +kernel
theorem dX10_meet_41 : decode cX10_meet 41 = .ok (.iconst 0, 1) := by decide +kernel
theorem dX10_meet_42 : decode cX10_meet 42 = .ok (.istore 6, 2) := by decide +kernel
theorem dX10_meet_44 : decode cX10_meet 44 = .ok (.iconst 0, 1) := by decide +kernel
theorem dX10_meet_45 : decode cX10_meet 45 = .ok (.istore 7, 2) := by decide +kernel
theorem dX10_meet_47 : decode cX10_meet 47 = .ok (.iload 7, 2) := by decide +kernel
theorem dX10_meet_49 : decode cX10_meet 49 = .ok (.aload_n 0, 1) := by decide +kernel
theorem dX10_meet_50 : decode cX10_meet 50 = .ok (.getfield 39, 3) := by decide +kernel
theorem dX10_meet_53 : decode cX10_meet 53 = .ok (.iconst 0, 1) := by decide +kernel
theorem dX10_meet_54 : decode cX10_meet 54 = .ok (.iaload, 1) := by decide +kernel
theorem dX10_meet_55 : decode cX10_meet 55 = .ok (.if_icmp .ge 110, 3) := by decide +kernel
theorem dX10_meet_58 : decode cX10_meet 58 = .ok (.aload_n 0, 1) := by decide +kernel
theorem dX10_meet_59 : decode cX10_meet 59 = .ok (.iload_n 1, 1) := by decide +kernel
theorem dX10_meet_60 : decode cX10_meet 60 = .ok (.iload 7, 2) := by decide +kernel
theorem dX10_meet_62 : decode cX10_meet 62 = .ok (.invokevirtual 388, 3) := by decide +kernel
theorem dX10_meet_65 : decode cX10_meet 65 = .ok (.istore 8, 2) := by decide +kernel
theorem dX10_meet_67 : decode cX10_meet 67 = .ok (.aload_n 0, 1) := by decide +kernel
theorem dX10_meet_68 : decode cX10_meet 68 = .ok (.iload_n 2, 1) := by decide +kernel
theorem dX10_meet_69 : decode cX10_meet 69 = .ok (.iload 7, 2) := by decide +kernel
theorem dX10_meet_71 : decode cX10_meet 71 = .ok (.invokevirtual 388, 3) := by decide +kernel
theorem dX10_meet_74 : decode cX10_meet 74 = .ok (.istore 9, 2) := by decide +kernel
theorem dX10_meet_76 : decode cX10_meet 76 = .ok (.iload 8, 2) := by decide +kernel
theorem dX10_meet_78 : decode cX10_meet 78 = .ok (.bipush 99, 2) := by decide +kernel
theorem dX10_meet_80 : decode cX10_meet 80 = .ok (.if_icmp .eq 79, 3) := by decide +kernel
theorem dX10_meet_83 : decode cX10_meet 83 = .ok (.iload 9, 2) := by decide +kernel
theorem dX10_meet_85 : decode cX10_meet 85 = .ok (.bipush 99, 2) := by decide +kernel
theorem dX10_meet_87 : decode cX10_meet 87 = .ok (.if_icmp .ne 6, 3) := by decide +kernel
theorem dX10_meet_90 : decode cX10_meet 90 = .ok (.goto 69, 3) := by decide +kernel
theorem dX10_meet_93 : decode cX10_meet 93 = .ok (.iload 8, 2) := by decide +kernel
theorem dX10_meet_95 : decode cX10_meet 95 = .ok (.iload 9, 2) := by decide +kernel
theorem dX10_meet_97 : decode cX10_meet 97 = .ok (.if_icmp .le 8, 3) := by decide +kernel
theorem dX10_meet_100 : decode cX10_meet 100 = .ok (.iload 8, 2) := by decide +kernel
theorem dX10_meet_102 : decode cX10_meet 102 = .ok (.goto 5, 3) := by decide +kernel
theorem dX10_meet_105 : decode cX10_meet 105 = .ok (.iload 9, 2) := by decide +kernel
theorem dX10_meet_107 : decode cX10_meet 107 = .ok (.istore 10, 2) := by decide +kernel
theorem dX10_meet_109 : decode cX10_meet 109 = .ok (.iload 4, 2) := by decide +kernel
theorem dX10_meet_111 : decode cX10_meet 111 = .ok (.ifCond .lt 33, 3) := by decide +kernel
theorem dX10_meet_114 : decode cX10_meet 114 = .ok (.iload 8, 2) := by decide +kernel
theorem dX10_meet_116 : decode cX10_meet 116 = .ok (.iload 9, 2) := by decide +kernel
theorem dX10_meet_118 : decode cX10_meet 118 = .ok (.iadd, 1) := by decide +kernel
theorem dX10_meet_119 : decode cX10_meet 119 = .ok (.iload 5, 2) := by decide +kernel
theorem dX10_meet_121 : decode cX10_meet 121 = .ok (.if_icmp .gt 38, 3) := by decide +kernel
theorem dX10_meet_124 : decode cX10_meet 124 = .ok (.iload 8, 2) := by decide +kernel
theorem dX10_meet_126 : decode cX10_meet 126 = .ok (.iload 9, 2) := by decide +kernel
theorem dX10_meet_128 : decode cX10_meet 128 = .ok (.iadd, 1) := by decide +kernel
theorem dX10_meet_129 : decode cX10_meet 129 = .ok (.iload 5, 2) := by decide +kernel
theorem dX10_meet_131 : decode cX10_meet 131 = .ok (.if_icmp .ne 13, 3) := by decide +kernel
theorem dX10_meet_134 : decode cX10_meet 134 = .ok (.iload 10, 2) := by decide +kernel
theorem dX10_meet_136 : decode cX10_meet 136 = .ok (.iload 6, 2) := by decide +kernel
theorem dX10_meet_138 : decode cX10_meet 138 = .ok (.if_icmp .lt 6, 3) := by decide +kernel
theorem dX10_meet_141 : decode cX10_meet 141 = .ok (.goto 18, 3) := by decide +kernel
theorem dX10_meet_144 : decode cX10_meet 144 = .ok (.iload 7, 2) := by decide +kernel
theorem dX10_meet_146 : decode cX10_meet 146 = .ok (.istore 4, 2) := by decide +kernel
theorem dX10_meet_148 : decode cX10_meet 148 = .ok (.iload 8, 2) := by decide +kernel
theorem dX10_meet_150 : decode cX10_meet 150 = .ok (.iload 9, 2) := by decide +kernel
theorem dX10_meet_152 : decode cX10_meet 152 = .ok (.iadd, 1) := by decide +kernel
theorem dX10_meet_153 : decode cX10_meet 153 = .ok (.istore 5, 2) := by decide +kernel
theorem dX10_meet_155 : decode cX10_meet 155 = .ok (.iload 10, 2) := by decide +kernel
theorem dX10_meet_157 : decode cX10_meet 157 = .ok (.istore 6, 2) := by decide +kernel
theorem dX10_meet_159 : decode cX10_meet 159 = .ok (.iinc 7 1, 3) := by decide +kernel
theorem dX10_meet_162 : decode cX10_meet 162 = .ok (.goto (-115), 3) := by decide +kernel
theorem dX10_meet_165 : decode cX10_meet 165 = .ok (.iload_n 3, 1) := by decide +kernel
theorem dX10_meet_166 : decode cX10_meet 166 = .ok (.ifCond .ne 8, 3) := by decide +kernel
theorem dX10_meet_169 : decode cX10_meet 169 = .ok (.iload 4, 2) := by decide +kernel
theorem dX10_meet_171 : decode cX10_meet 171 = .ok (.goto 5, 3) := by decide +kernel
theorem dX10_meet_174 : decode cX10_meet 174 = .ok (.iload 5, 2) := by decide +kernel
theorem dX10_meet_176 : decode cX10_meet 176 = .ok (.ireturn, 1) := by decide +kernel
theorem dX10_canMeet_0 : decode cX10_canMeet 0 = .ok (.aload_n 0, 1) := by decide +kernel
theorem dX10_canMeet_1 : decode cX10_canMeet 1 = .ok (.iload_n 1, 1) := by decide +kernel
theorem dX10_canMeet_2 : decode cX10_canMeet 2 = .ok (.invokevirtual 319, 3) := by decide +kernel
theorem dX10_canMeet_5 : decode cX10_canMeet 5 = .ok (.aload_n 0, 1) := by decide +kernel
theorem dX10_canMeet_6 : decode cX10_canMeet 6 = .ok (.iload_n 2, 1) := by decide +kernel
theorem dX10_canMeet_7 : decode cX10_canMeet 7 = .ok (.invokevirtual 319, 3) := by decide +kernel
theorem dX10_canMeet_10 : decode cX10_canMeet 10 = .ok (.iand, 1) := by decide +kernel
theorem dX10_canMeet_11 : decode cX10_canMeet 11 = .ok (.ifCond .eq 7, 3) := by decide +kernel
theorem dX10_canMeet_14 : decode cX10_canMeet 14 = .ok (.iconst 1, 1) := by decide +kernel
theorem dX10_canMeet_15 : decode cX10_canMeet 15 = .ok (.goto 4, 3) := by decide +kernel
theorem dX10_canMeet_18 : decode cX10_canMeet 18 = .ok (.iconst 0, 1) := by decide +kernel
theorem dX10_canMeet_19 : decode cX10_canMeet 19 = .ok (.ireturn, 1) := by decide +kernel
theorem dX10_grows_0 : decode cX10_grows 0 = .ok (.aload_n 0, 1) := by decide +kernel
theorem dX10_grows_1 : decode cX10_grows 1 = .ok (.iconst 0, 1) := by decide +kernel
theorem dX10_grows_2 : decode cX10_grows 2 = .ok (.putfield 414, 3) := by decide +kernel
theorem dX10_grows_5 : decode cX10_grows 5 = .ok (.aload_n 0, 1) := by decide +kernel
theorem dX10_grows_6 : decode cX10_grows 6 = .ok (.iconst 0, 1) := by decide +kernel
theorem dX10_grows_7 : decode cX10_grows 7 = .ok (.putfield 417, 3) := by decide +kernel
theorem dX10_grows_10 : decode cX10_grows 10 = .ok (.iconst 0, 1) := by decide +kernel
theorem dX10_grows_11 : decode cX10_grows 11 = .ok (.istore_n 2, 1) := by decide +kernel
theorem dX10_grows_12 : decode cX10_grows 12 = .ok (.iload_n 2, 1) := by decide +kernel
theorem dX10_grows_13 : decode cX10_grows 13 = .ok (.bipush 72, 2) := by decide +kernel
theorem dX10_grows_15 : decode cX10_grows 15 = .ok (.if_icmp .ge 24, 3) := by decide +kernel
theorem dX10_grows_18 : decode cX10_grows 18 = .ok (.aload_n 0, 1) := by decide +kernel
theorem dX10_grows_19 : decode cX10_grows 19 = .ok (.getfield 57, 3) := by decide +kernel
theorem dX10_grows_22 : decode cX10_grows 22 = .ok (.iload_n 2, 1) := by decide +kernel
theorem dX10_grows_23 : decode cX10_grows 23 = .ok (.aload_n 0, 1) := by decide +kernel
theorem dX10_grows_24 : decode cX10_grows 24 = .ok (.getfield 39, 3) := by decide +kernel
theorem dX10_grows_27 : decode cX10_grows 27 = .ok (.bipush 22, 2) := by decide +kernel
theorem dX10_grows_29 : decode cX10_grows 29 = .ok (.iload_n 2, 1) := by decide +kernel
theorem dX10_grows_30 : decode cX10_grows 30 = .ok (.iadd, 1) := by decide +kernel
theorem dX10_grows_31 : decode cX10_grows 31 = .ok (.iaload, 1) := by decide +kernel
theorem dX10_grows_32 : decode cX10_grows 32 = .ok (.iastore, 1) := by decide +kernel
theorem dX10_grows_33 : decode cX10_grows 33 = .ok (.iinc 2 1, 3) := by decide +kernel
theorem dX10_grows_36 : decode cX10_grows 36 = .ok (.goto (-24), 3) := by decide +kernel
theorem dX10_grows_39 : decode cX10_grows 39 = .ok (.iconst 0, 1) := by decide +kernel
theorem dX10_grows_40 : decode cX10_grows 40 = .ok (.istore_n 2, 1) := by decide +kernel
theorem dX10_grows_41 : decode cX10_grows 41 = .ok (.iload_n 2, 1) := by decide +kernel
theorem dX10_grows_42 : decode cX10_grows 42 = .ok (.aload_n 0, 1) := by decide +kernel
theorem dX10_grows_43 : decode cX10_grows 43 = .ok (.getfield 39, 3) := by decide +kernel
theorem dX10_grows_46 : decode cX10_grows 46 = .ok (.iconst 4, 1) := by decide +kernel
theorem dX10_grows_47 : decode cX10_grows 47 = .ok (.iaload, 1) := by decide +kernel
theorem dX10_grows_48 : decode cX10_grows 48 = .ok (.if_icmp .ge 100, 3) := by decide +kernel
theorem dX10_grows_51 : decode cX10_grows 51 = .ok (.aload_n 0, 1) := by decide +kernel
theorem dX10_grows_52 : decode cX10_grows 52 = .ok (.iload_n 2, 1) := by decide +kernel
theorem dX10_grows_53 : decode cX10_grows 53 = .ok (.invokevirtual 319, 3) := by decide +kernel
theorem dX10_grows_56 : decode cX10_grows 56 = .ok (.invokestatic 420, 3) := by decide +kernel
theorem dX10_grows_59 : decode cX10_grows 59 = .ok (.istore_n 3, 1) := by decide +kernel
theorem dX10_grows_60 : decode cX10_grows 60 = .ok (.aload_n 0, 1) := by decide +kernel
theorem dX10_grows_61 : decode cX10_grows 61 = .ok (.iload_n 1, 1) := by decide +kernel
theorem dX10_grows_62 : decode cX10_grows 62 = .ok (.invokevirtual 351, 3) := by decide +kernel
theorem dX10_grows_65 : decode cX10_grows 65 = .ok (.aload_n 0, 1) := by decide +kernel
theorem dX10_grows_66 : decode cX10_grows 66 = .ok (.iload_n 2, 1) := by decide +kernel
theorem dX10_grows_67 : decode cX10_grows 67 = .ok (.invokevirtual 319, 3) := by decide +kernel
theorem dX10_grows_70 : decode cX10_grows 70 = .ok (.invokestatic 420, 3) := by decide +kernel
theorem dX10_grows_73 : decode cX10_grows 73 = .ok (.iload_n 3, 1) := by decide +kernel
theorem dX10_grows_74 : decode cX10_grows 74 = .ok (.isub, 1) := by decide +kernel
theorem dX10_grows_75 : decode cX10_grows 75 = .ok (.istore 4, 2) := by decide +kernel
theorem dX10_grows_77 : decode cX10_grows 77 = .ok (.iconst 0, 1) := by decide +kernel
theorem dX10_grows_78 : decode cX10_grows 78 = .ok (.istore 5, 2) := by decide +kernel
theorem dX10_grows_80 : decode cX10_grows 80 = .ok (.iload 5, 2) := by decide +kernel
theorem dX10_grows_82 : decode cX10_grows 82 = .ok (.bipush 72, 2) := by decide +kernel
theorem dX10_grows_84 : decode cX10_grows 84 = .ok (.if_icmp .ge 26, 3) := by decide +kernel
theorem dX10_grows_87 : decode cX10_grows 87 = .ok (.aload_n 0, 1) := by decide +kernel
theorem dX10_grows_88 : decode cX10_grows 88 = .ok (.getfield 39, 3) := by decide +kernel
theorem dX10_grows_91 : decode cX10_grows 91 = .ok (.bipush 22, 2) := by decide +kernel
theorem dX10_grows_93 : decode cX10_grows 93 = .ok (.iload 5, 2) := by decide +kernel
theorem dX10_grows_95 : decode cX10_grows 95 = .ok (.iadd, 1) := by decide +kernel
theorem dX10_grows_96 : decode cX10_grows 96 = .ok (.aload_n 0, 1) := by decide +kernel
theorem dX10_grows_97 : decode cX10_grows 97 = .ok (.getfield 57, 3) := by decide +kernel
theorem dX10_grows_100 : decode cX10_grows 100 = .ok (.iload 5, 2) := by decide +kernel
theorem dX10_grows_102 : decode cX10_grows 102 = .ok (.iaload, 1) := by decide +kernel
theorem dX10_grows_103 : decode cX10_grows 103 = .ok (.iastore, 1) := by decide +kernel
theorem dX10_grows_104 : decode cX10_grows 104 = .ok (.iinc 5 1, 3) := by decide +kernel
theorem dX10_grows_107 : decode cX10_grows 107 = .ok (.goto (-27), 3) := by decide +kernel
theorem dX10_grows_110 : decode cX10_grows 110 = .ok (.aload_n 0, 1) := by decide +kernel
theorem dX10_grows_111 : decode cX10_grows 111 = .ok (.dup, 1) := by decide +kernel
theorem dX10_grows_112 : decode cX10_grows 112 = .ok (.getfield 414, 3) := by decide +kernel
theorem dX10_grows_115 : decode cX10_grows 115 = .ok (.iload 4, 2) := by decide +kernel
theorem dX10_grows_117 : decode cX10_grows 117 = .ok (.iadd, 1) := by decide +kernel
theorem dX10_grows_118 : decode cX10_grows 118 = .ok (.putfield 414, 3) := by decide +kernel
theorem dX10_grows_121 : decode cX10_grows 121 = .ok (.aload_n 0, 1) := by decide +kernel
theorem dX10_grows_122 : decode cX10_grows 122 = .ok (.dup, 1) := by decide +kernel
theorem dX10_grows_123 : decode cX10_grows 123 = .ok (.getfield 417, 3) := by decide +kernel
theorem dX10_grows_126 : decode cX10_grows 126 = .ok (.iload 4, 2) := by decide +kernel
theorem dX10_grows_128 : decode cX10_grows 128 = .ok (.ifCond .le 9, 3) := by decide +kernel
theorem dX10_grows_131 : decode cX10_grows 131 = .ok (.iconst 1, 1) := by decide +kernel
theorem dX10_grows_132 : decode cX10_grows 132 = .ok (.iload_n 2, 1) := by decide +kernel
theorem dX10_grows_133 : decode cX10_grows 133 = .ok (.ishl, 1) := by decide +kernel
theorem dX10_grows_134 : decode cX10_grows 134 = .ok (.goto 4, 3) := by decide +kernel
theorem dX10_grows_137 : decode cX10_grows 137 = .ok (.iconst 0, 1) := by decide +kernel
theorem dX10_grows_138 : decode cX10_grows 138 = .ok (.ior, 1) := by decide +kernel
theorem dX10_grows_139 : decode cX10_grows 139 = .ok (.putfield 417, 3) := by decide +kernel
theorem dX10_grows_142 : decode cX10_grows 142 = .ok (.iinc 2 1, 3) := by decide +kernel
theorem dX10_grows_145 : decode cX10_grows 145 = .ok (.goto (-104), 3) := by decide +kernel
theorem dX10_grows_148 : decode cX10_grows 148 = .ok (.return_, 1) := by decide +kernel
theorem dX10_best_0 : decode cX10_best 0 = .ok (.aload_n 0, 1) := by decide +kernel
theorem dX10_best_1 : decode cX10_best 1 = .ok (.invokevirtual 358, 3) := by decide +kernel
theorem dX10_best_4 : decode cX10_best 4 = .ok (.ifCond .eq 15, 3) := by decide +kernel
theorem dX10_best_7 : decode cX10_best 7 = .ok (.iload_n 1, 1) := by decide +kernel
theorem dX10_best_8 : decode cX10_best 8 = .ok (.i2l, 1) := by decide +kernel
theorem dX10_best_9 : decode cX10_best 9 = .ok (.lconst 0, 1) := by decide +kernel
theorem dX10_best_10 : decode cX10_best 10 = .ok (.ldc2_w 331, 3) := by decide +kernel
theorem dX10_best_13 : decode cX10_best 13 = .ok (.invokestatic 118, 3) := by decide +kernel
theorem dX10_best_16 : decode cX10_best 16 = .ok (.ifCond .ne 5, 3) := by decide +kernel
theorem dX10_best_19 : decode cX10_best 19 = .ok (.iconst (-1), 1) := by decide +kernel
theorem dX10_best_20 : decode cX10_best 20 = .ok (.ireturn, 1) := by decide +kernel
theorem dX10_best_21 : decode cX10_best 21 = .ok (.bipush (-2), 2) := by decide +kernel
theorem dX10_best_23 : decode cX10_best 23 = .ok (.istore_n 2, 1) := by decide +kernel
theorem dX10_best_24 : decode cX10_best 24 = .ok (.iconst 0, 1) := by decide +kernel
theorem dX10_best_25 : decode cX10_best 25 = .ok (.istore_n 3, 1) := by decide +kernel
theorem dX10_best_26 : decode cX10_best 26 = .ok (.iconst 0, 1) := by decide +kernel
theorem dX10_best_27 : decode cX10_best 27 = .ok (.istore 4, 2) := by decide +kernel
theorem dX10_best_29 : decode cX10_best 29 = .ok (.iconst 0, 1) := by decide +kernel
theorem dX10_best_30 : decode cX10_best 30 = .ok (.istore 5, 2) := by decide +kernel
theorem dX10_best_32 : decode cX10_best 32 = .ok (.iload 5, 2) := by decide +kernel
theorem dX10_best_34 : decode cX10_best 34 = .ok (.aload_n 0, 1) := by decide +kernel
theorem dX10_best_35 : decode cX10_best 35 = .ok (.getfield 39, 3) := by decide +kernel
theorem dX10_best_38 : decode cX10_best 38 = .ok (.iconst 2, 1) := by decide +kernel
theorem dX10_best_39 : decode cX10_best 39 = .ok (.iaload, 1) := by decide +kernel
theorem dX10_best_40 : decode cX10_best 40 = .ok (.if_icmp .ge 40, 3) := by decide +kernel
theorem dX10_best_43 : decode cX10_best 43 = .ok (.aload_n 0, 1) := by decide +kernel
theorem dX10_best_44 : decode cX10_best 44 = .ok (.iload 5, 2) := by decide +kernel
theorem dX10_best_46 : decode cX10_best 46 = .ok (.invokevirtual 423, 3) := by decide +kernel
theorem dX10_best_49 : decode cX10_best 49 = .ok (.aload_n 0, 1) := by decide +kernel
theorem dX10_best_50 : decode cX10_best 50 = .ok (.getfield 414, 3) := by decide +kernel
theorem dX10_best_53 : decode cX10_best 53 = .ok (.iload_n 3, 1) := by decide +kernel
theorem dX10_best_54 : decode cX10_best 54 = .ok (.if_icmp .gt 6, 3) := by decide +kernel
theorem dX10_best_57 : decode cX10_best 57 = .ok (.goto 17, 3) := by decide +kernel
theorem dX10_best_60 : decode cX10_best 60 = .ok (.iload 5, 2) := by decide +kernel
theorem dX10_best_62 : decode cX10_best 62 = .ok (.istore_n 2, 1) := by decide +kernel
theorem dX10_best_63 : decode cX10_best 63 = .ok (.aload_n 0, 1) := by decide +kernel
theorem dX10_best_64 : decode cX10_best 64 = .ok (.getfield 414, 3) := by decide +kernel
theorem dX10_best_67 : decode cX10_best 67 = .ok (.istore_n 3, 1) := by decide +kernel
theorem dX10_best_68 : decode cX10_best 68 = .ok (.aload_n 0, 1) := by decide +kernel
theorem dX10_best_69 : decode cX10_best 69 = .ok (.getfield 417, 3) := by decide +kernel
theorem dX10_best_72 : decode cX10_best 72 = .ok (.istore 4, 2) := by decide +kernel
theorem dX10_best_74 : decode cX10_best 74 = .ok (.iinc 5 1, 3) := by decide +kernel
theorem dX10_best_77 : decode cX10_best 77 = .ok (.goto (-45), 3) := by decide +kernel
theorem dX10_best_80 : decode cX10_best 80 = .ok (.iload_n 1, 1) := by decide +kernel
theorem dX10_best_81 : decode cX10_best 81 = .ok (.ifCond .ne 7, 3) := by decide +kernel
theorem dX10_best_84 : decode cX10_best 84 = .ok (.iload_n 2, 1) := by decide +kernel
theorem dX10_best_85 : decode cX10_best 85 = .ok (.goto 14, 3) := by decide +kernel
theorem dX10_best_88 : decode cX10_best 88 = .ok (.iload_n 1, 1) := by decide +kernel
theorem dX10_best_89 : decode cX10_best 89 = .ok (.iconst 1, 1) := by decide +kernel
theorem dX10_best_90 : decode cX10_best 90 = .ok (.if_icmp .ne 7, 3) := by decide +kernel
theorem dX10_best_93 : decode cX10_best 93 = .ok (.iload_n 3, 1) := by decide +kernel
theorem dX10_best_94 : decode cX10_best 94 = .ok (.goto 5, 3) := by decide +kernel
theorem dX10_best_97 : decode cX10_best 97 = .ok (.iload 4, 2) := by decide +kernel
theorem dX10_best_99 : decode cX10_best 99 = .ok (.ireturn, 1) := by decide +kernel
theorem dX10_alone_0 : decode cX10_alone 0 = .ok (.aload_n 0, 1) := by decide +kernel
theorem dX10_alone_1 : decode cX10_alone 1 = .ok (.invokevirtual 358, 3) := by decide +kernel
theorem dX10_alone_4 : decode cX10_alone 4 = .ok (.ifCond .ne 5, 3) := by decide +kernel
theorem dX10_alone_7 : decode cX10_alone 7 = .ok (.iconst (-1), 1) := by decide +kernel
theorem dX10_alone_8 : decode cX10_alone 8 = .ok (.ireturn, 1) := by decide +kernel
theorem dX10_alone_9 : decode cX10_alone 9 = .ok (.iconst 0, 1) := by decide +kernel
theorem dX10_alone_10 : decode cX10_alone 10 = .ok (.istore_n 1, 1) := by decide +kernel
theorem dX10_alone_11 : decode cX10_alone 11 = .ok (.iconst 0, 1) := by decide +kernel
theorem dX10_alone_12 : decode cX10_alone 12 = .ok (.istore_n 2, 1) := by decide +kernel
theorem dX10_alone_13 : decode cX10_alone 13 = .ok (.iload_n 2, 1) := by decide +kernel
theorem dX10_alone_14 : decode cX10_alone 14 = .ok (.aload_n 0, 1) := by decide +kernel
theorem dX10_alone_15 : decode cX10_alone 15 = .ok (.getfield 39, 3) := by decide +kernel
theorem dX10_alone_18 : decode cX10_alone 18 = .ok (.iconst 4, 1) := by decide +kernel
theorem dX10_alone_19 : decode cX10_alone 19 = .ok (.iaload, 1) := by decide +kernel
theorem dX10_alone_20 : decode cX10_alone 20 = .ok (.if_icmp .ge 79, 3) := by decide +kernel
theorem dX10_alone_23 : decode cX10_alone 23 = .ok (.iconst 1, 1) := by decide +kernel
theorem dX10_alone_24 : decode cX10_alone 24 = .ok (.istore_n 3, 1) := by decide +kernel
theorem dX10_alone_25 : decode cX10_alone 25 = .ok (.iconst 0, 1) := by decide +kernel
theorem dX10_alone_26 : decode cX10_alone 26 = .ok (.istore 4, 2) := by decide +kernel
theorem dX10_alone_28 : decode cX10_alone 28 = .ok (.iload 4, 2) := by decide +kernel
theorem dX10_alone_30 : decode cX10_alone 30 = .ok (.aload_n 0, 1) := by decide +kernel
theorem dX10_alone_31 : decode cX10_alone 31 = .ok (.getfield 39, 3) := by decide +kernel
theorem dX10_alone_34 : decode cX10_alone 34 = .ok (.iconst 4, 1) := by decide +kernel
theorem dX10_alone_35 : decode cX10_alone 35 = .ok (.iaload, 1) := by decide +kernel
theorem dX10_alone_36 : decode cX10_alone 36 = .ok (.if_icmp .ge 43, 3) := by decide +kernel
theorem dX10_alone_39 : decode cX10_alone 39 = .ok (.iload_n 3, 1) := by decide +kernel
theorem dX10_alone_40 : decode cX10_alone 40 = .ok (.ifCond .eq 31, 3) := by decide +kernel
theorem dX10_alone_43 : decode cX10_alone 43 = .ok (.iload 4, 2) := by decide +kernel
theorem dX10_alone_45 : decode cX10_alone 45 = .ok (.iload_n 2, 1) := by decide +kernel
theorem dX10_alone_46 : decode cX10_alone 46 = .ok (.if_icmp .eq 21, 3) := by decide +kernel
theorem dX10_alone_49 : decode cX10_alone 49 = .ok (.aload_n 0, 1) := by decide +kernel
theorem dX10_alone_50 : decode cX10_alone 50 = .ok (.iload 4, 2) := by decide +kernel
theorem dX10_alone_52 : decode cX10_alone 52 = .ok (.invokevirtual 319, 3) := by decide +kernel
theorem dX10_alone_55 : decode cX10_alone 55 = .ok (.aload_n 0, 1) := by decide +kernel
theorem dX10_alone_56 : decode cX10_alone 56 = .ok (.iload_n 2, 1) := by decide +kernel
theorem dX10_alone_57 : decode cX10_alone 57 = .ok (.iconst 0, 1) := by decide +kernel
theorem dX10_alone_58 : decode cX10_alone 58 = .ok (.invokevirtual 307, 3) := by decide +kernel
theorem dX10_alone_61 : decode cX10_alone 61 = .ok (.invokestatic 426, 3) := by decide +kernel
theorem dX10_alone_64 : decode cX10_alone 64 = .ok (.ifCond .ne 7, 3) := by decide +kernel
theorem dX10_alone_67 : decode cX10_alone 67 = .ok (.iconst 1, 1) := by decide +kernel
theorem dX10_alone_68 : decode cX10_alone 68 = .ok (.goto 4, 3) := by decide +kernel
theorem dX10_alone_71 : decode cX10_alone 71 = .ok (.iconst 0, 1) := by decide +kernel
theorem dX10_alone_72 : decode cX10_alone 72 = .ok (.istore_n 3, 1) := by decide +kernel
theorem dX10_alone_73 : decode cX10_alone 73 = .ok (.iinc 4 1, 3) := by decide +kernel
theorem dX10_alone_76 : decode cX10_alone 76 = .ok (.goto (-48), 3) := by decide +kernel
theorem dX10_alone_79 : decode cX10_alone 79 = .ok (.iload_n 1, 1) := by decide +kernel
theorem dX10_alone_80 : decode cX10_alone 80 = .ok (.iload_n 3, 1) := by decide +kernel
theorem dX10_alone_81 : decode cX10_alone 81 = .ok (.ifCond .eq 9, 3) := by decide +kernel
theorem dX10_alone_84 : decode cX10_alone 84 = .ok (.iconst 1, 1) := by decide +kernel
theorem dX10_alone_85 : decode cX10_alone 85 = .ok (.iload_n 2, 1) := by decide +kernel
theorem dX10_alone_86 : decode cX10_alone 86 = .ok (.ishl, 1) := by decide +kernel
theorem dX10_alone_87 : decode cX10_alone 87 = .ok (.goto 4, 3) := by decide +kernel
theorem dX10_alone_90 : decode cX10_alone 90 = .ok (.iconst 0, 1) := by decide +kernel
theorem dX10_alone_91 : decode cX10_alone 91 = .ok (.ior, 1) := by decide +kernel
theorem dX10_alone_92 : decode cX10_alone 92 = .ok (.istore_n 1, 1) := by decide +kernel
theorem dX10_alone_93 : decode cX10_alone 93 = .ok (.iinc 2 1, 3) := by decide +kernel
theorem dX10_alone_96 : decode cX10_alone 96 = .ok (.goto (-83), 3) := by decide +kernel
theorem dX10_alone_99 : decode cX10_alone 99 = .ok (.iload_n 1, 1) := by decide +kernel
theorem dX10_alone_100 : decode cX10_alone 100 = .ok (.ireturn, 1) := by decide +kernel
theorem dX10_handsBetween_0 : decode cX10_handsBetween 0 = .ok (.aload_n 0, 1) := by decide +kernel
theorem dX10_handsBetween_1 : decode cX10_handsBetween 1 = .ok (.iload_n 1, 1) := by decide +kernel
theorem dX10_handsBetween_2 : decode cX10_handsBetween 2 = .ok (.iload_n 2, 1) := by decide +kernel
theorem dX10_handsBetween_3 : decode cX10_handsBetween 3 = .ok (.invokevirtual 429, 3) := by decide +kernel
theorem dX10_handsBetween_6 : decode cX10_handsBetween 6 = .ok (.ifCond .eq 5, 3) := by decide +kernel
theorem dX10_handsBetween_9 : decode cX10_handsBetween 9 = .ok (.iconst 0, 1) := by decide +kernel
theorem dX10_handsBetween_10 : decode cX10_handsBetween 10 = .ok (.ireturn, 1) := by decide +kernel
theorem dX10_handsBetween_11 : decode cX10_handsBetween 11 = .ok (.iconst 0, 1) := by decide +kernel
theorem dX10_handsBetween_12 : decode cX10_handsBetween 12 = .ok (.istore_n 3, 1) := by decide +kernel
theorem dX10_handsBetween_13 : decode cX10_handsBetween 13 = .ok (.iload_n 3, 1) := by decide +kernel
theorem dX10_handsBetween_14 : decode cX10_handsBetween 14 = .ok (.aload_n 0, 1) := by decide +kernel
theorem dX10_handsBetween_15 : decode cX10_handsBetween 15 = .ok (.getfield 39, 3) := by decide +kernel
theorem dX10_handsBetween_18 : decode cX10_handsBetween 18 = .ok (.iconst 4, 1) := by decide +kernel
theorem dX10_handsBetween_19 : decode cX10_handsBetween 19 = .ok (.iaload, 1) := by decide +kernel
theorem dX10_handsBetween_20 : decode cX10_handsBetween 20 = .ok (.if_icmp .ge 49, 3) := by decide +kernel
theorem dX10_handsBetween_23 : decode cX10_handsBetween 23 = .ok (.iload_n 3, 1) := by decide +kernel
theorem dX10_handsBetween_24 : decode cX10_handsBetween 24 = .ok (.iload_n 1, 1) := by decide +kernel
theorem dX10_handsBetween_25 : decode cX10_handsBetween 25 = .ok (.if_icmp .eq 38, 3) := by decide +kernel
theorem dX10_handsBetween_28 : decode cX10_handsBetween 28 = .ok (.iload_n 3, 1) := by decide +kernel
theorem dX10_handsBetween_29 : decode cX10_handsBetween 29 = .ok (.iload_n 2, 1) := by decide +kernel
theorem dX10_handsBetween_30 : decode cX10_handsBetween 30 = .ok (.if_icmp .eq 33, 3) := by decide +kernel
theorem dX10_handsBetween_33 : decode cX10_handsBetween 33 = .ok (.aload_n 0, 1) := by decide +kernel
theorem dX10_handsBetween_34 : decode cX10_handsBetween 34 = .ok (.iload_n 1, 1) := by decide +kernel
theorem dX10_handsBetween_35 : decode cX10_handsBetween 35 = .ok (.iload_n 3, 1) := by decide +kernel
theorem dX10_handsBetween_36 : decode cX10_handsBetween 36 = .ok (.invokevirtual 429, 3) := by decide +kernel
theorem dX10_handsBetween_39 : decode cX10_handsBetween 39 = .ok (.ifCond .eq 24, 3) := by decide +kernel
theorem dX10_handsBetween_42 : decode cX10_handsBetween 42 = .ok (.aload_n 0, 1) := by decide +kernel
theorem dX10_handsBetween_43 : decode cX10_handsBetween 43 = .ok (.iload_n 3, 1) := by decide +kernel
theorem dX10_handsBetween_44 : decode cX10_handsBetween 44 = .ok (.iload_n 2, 1) := by decide +kernel
theorem dX10_handsBetween_45 : decode cX10_handsBetween 45 = .ok (.invokevirtual 429, 3) := by decide +kernel
theorem dX10_handsBetween_48 : decode cX10_handsBetween 48 = .ok (.ifCond .ne 6, 3) := by decide +kernel
theorem dX10_handsBetween_51 : decode cX10_handsBetween 51 = .ok (.goto 12, 3) := by decide +kernel
theorem dX10_handsBetween_54 : decode cX10_handsBetween 54 = .ok (.aload_n 0, 1) := by decide +kernel
theorem dX10_handsBetween_55 : decode cX10_handsBetween 55 = .ok (.getfield 60, 3) := by decide +kernel
theorem dX10_handsBetween_58 : decode cX10_handsBetween 58 = .ok (.iconst 0, 1) := by decide +kernel
theorem dX10_handsBetween_59 : decode cX10_handsBetween 59 = .ok (.iload_n 3, 1) := by decide +kernel
theorem dX10_handsBetween_60 : decode cX10_handsBetween 60 = .ok (.iastore, 1) := by decide +kernel
theorem dX10_handsBetween_61 : decode cX10_handsBetween 61 = .ok (.iconst 1, 1) := by decide +kernel
theorem dX10_handsBetween_62 : decode cX10_handsBetween 62 = .ok (.ireturn, 1) := by decide +kernel
theorem dX10_handsBetween_63 : decode cX10_handsBetween 63 = .ok (.iinc 3 1, 3) := by decide +kernel
theorem dX10_handsBetween_66 : decode cX10_handsBetween 66 = .ok (.goto (-53), 3) := by decide +kernel
theorem dX10_handsBetween_69 : decode cX10_handsBetween 69 = .ok (.iconst 0, 1) := by decide +kernel
theorem dX10_handsBetween_70 : decode cX10_handsBetween 70 = .ok (.istore_n 3, 1) := by decide +kernel
theorem dX10_handsBetween_71 : decode cX10_handsBetween 71 = .ok (.iload_n 3, 1) := by decide +kernel
theorem dX10_handsBetween_72 : decode cX10_handsBetween 72 = .ok (.aload_n 0, 1) := by decide +kernel
theorem dX10_handsBetween_73 : decode cX10_handsBetween 73 = .ok (.getfield 39, 3) := by decide +kernel
theorem dX10_handsBetween_76 : decode cX10_handsBetween 76 = .ok (.iconst 4, 1) := by decide +kernel
theorem dX10_handsBetween_77 : decode cX10_handsBetween 77 = .ok (.iaload, 1) := by decide +kernel
theorem dX10_handsBetween_78 : decode cX10_handsBetween 78 = .ok (.if_icmp .ge 118, 3) := by decide +kernel
theorem dX10_handsBetween_81 : decode cX10_handsBetween 81 = .ok (.iconst 0, 1) := by decide +kernel
theorem dX10_handsBetween_82 : decode cX10_handsBetween 82 = .ok (.istore 4, 2) := by decide +kernel
theorem dX10_handsBetween_84 : decode cX10_handsBetween 84 = .ok (.iload 4, 2) := by decide +kernel
theorem dX10_handsBetween_86 : decode cX10_handsBetween 86 = .ok (.aload_n 0, 1) := by decide +kernel
theorem dX10_handsBetween_87 : decode cX10_handsBetween 87 = .ok (.getfield 39, 3) := by decide +kernel
theorem dX10_handsBetween_90 : decode cX10_handsBetween 90 = .ok (.iconst 4, 1) := by decide +kernel
theorem dX10_handsBetween_91 : decode cX10_handsBetween 91 = .ok (.iaload, 1) := by decide +kernel
theorem dX10_handsBetween_92 : decode cX10_handsBetween 92 = .ok (.if_icmp .ge 98, 3) := by decide +kernel
theorem dX10_handsBetween_95 : decode cX10_handsBetween 95 = .ok (.iload_n 3, 1) := by decide +kernel
theorem dX10_handsBetween_96 : decode cX10_handsBetween 96 = .ok (.iload_n 1, 1) := by decide +kernel
theorem dX10_handsBetween_97 : decode cX10_handsBetween 97 = .ok (.if_icmp .eq 30, 3) := by decide +kernel
theorem dX10_handsBetween_100 : decode cX10_handsBetween 100 = .ok (.iload_n 3, 1) := by decide +kernel
theorem dX10_handsBetween_101 : decode cX10_handsBetween 101 = .ok (.iload_n 2, 1) := by decide +kernel
theorem dX10_handsBetween_102 : decode cX10_handsBetween 102 = .ok (.if_icmp .eq 25, 3) := by decide +kernel
theorem dX10_handsBetween_105 : decode cX10_handsBetween 105 = .ok (.iload 4, 2) := by decide +kernel
theorem dX10_handsBetween_107 : decode cX10_handsBetween 107 = .ok (.iload_n 1, 1) := by decide +kernel
theorem dX10_handsBetween_108 : decode cX10_handsBetween 108 = .ok (.if_icmp .eq 19, 3) := by decide +kernel
theorem dX10_handsBetween_111 : decode cX10_handsBetween 111 = .ok (.iload 4, 2) := by decide +kernel
theorem dX10_handsBetween_113 : decode cX10_handsBetween 113 = .ok (.iload_n 2, 1) := by decide +kernel
theorem dX10_handsBetween_114 : decode cX10_handsBetween 114 = .ok (.if_icmp .eq 13, 3) := by decide +kernel
theorem dX10_handsBetween_117 : decode cX10_handsBetween 117 = .ok (.iload_n 3, 1) := by decide +kernel
theorem dX10_handsBetween_118 : decode cX10_handsBetween 118 = .ok (.iload 4, 2) := by decide +kernel
theorem dX10_handsBetween_120 : decode cX10_handsBetween 120 = .ok (.if_icmp .eq 7, 3) := by decide +kernel
theorem dX10_handsBetween_123 : decode cX10_handsBetween 123 = .ok (.iconst 1, 1) := by decide +kernel
theorem dX10_handsBetween_124 : decode cX10_handsBetween 124 = .ok (.goto 4, 3) := by decide +kernel
theorem dX10_handsBetween_127 : decode cX10_handsBetween 127 = .ok (.iconst 0, 1) := by decide +kernel
theorem dX10_handsBetween_128 : decode cX10_handsBetween 128 = .ok (.istore 5, 2) := by decide +kernel
theorem dX10_handsBetween_130 : decode cX10_handsBetween 130 = .ok (.iload 5, 2) := by decide +kernel
theorem dX10_handsBetween_132 : decode cX10_handsBetween 132 = .ok (.ifCond .eq 52, 3) := by decide +kernel
theorem dX10_handsBetween_135 : decode cX10_handsBetween 135 = .ok (.aload_n 0, 1) := by decide +kernel
theorem dX10_handsBetween_136 : decode cX10_handsBetween 136 = .ok (.iload_n 1, 1) := by decide +kernel
theorem dX10_handsBetween_137 : decode cX10_handsBetween 137 = .ok (.iload_n 3, 1) := by decide +kernel
theorem dX10_handsBetween_138 : decode cX10_handsBetween 138 = .ok (.invokevirtual 429, 3) := by decide +kernel
theorem dX10_handsBetween_141 : decode cX10_handsBetween 141 = .ok (.ifCond .eq 43, 3) := by decide +kernel
theorem dX10_handsBetween_144 : decode cX10_handsBetween 144 = .ok (.aload_n 0, 1) := by decide +kernel
theorem dX10_handsBetween_145 : decode cX10_handsBetween 145 = .ok (.iload_n 3, 1) := by decide +kernel
theorem dX10_handsBetween_146 : decode cX10_handsBetween 146 = .ok (.iload 4, 2) := by decide +kernel
theorem dX10_handsBetween_148 : decode cX10_handsBetween 148 = .ok (.invokevirtual 429, 3) := by decide +kernel
theorem dX10_handsBetween_151 : decode cX10_handsBetween 151 = .ok (.ifCond .eq 33, 3) := by decide +kernel
theorem dX10_handsBetween_154 : decode cX10_handsBetween 154 = .ok (.aload_n 0, 1) := by decide +kernel
theorem dX10_handsBetween_155 : decode cX10_handsBetween 155 = .ok (.iload 4, 2) := by decide +kernel
theorem dX10_handsBetween_157 : decode cX10_handsBetween 157 = .ok (.iload_n 2, 1) := by decide +kernel
theorem dX10_handsBetween_158 : decode cX10_handsBetween 158 = .ok (.invokevirtual 429, 3) := by decide +kernel
theorem dX10_handsBetween_161 : decode cX10_handsBetween 161 = .ok (.ifCond .ne 6, 3) := by decide +kernel
theorem dX10_handsBetween_164 : decode cX10_handsBetween 164 = .ok (.goto 20, 3) := by decide +kernel
theorem dX10_handsBetween_167 : decode cX10_handsBetween 167 = .ok (.aload_n 0, 1) := by decide +kernel
theorem dX10_handsBetween_168 : decode cX10_handsBetween 168 = .ok (.getfield 60, 3) := by decide +kernel
theorem dX10_handsBetween_171 : decode cX10_handsBetween 171 = .ok (.iconst 0, 1) := by decide +kernel
theorem dX10_handsBetween_172 : decode cX10_handsBetween 172 = .ok (.iload_n 3, 1) := by decide +kernel
theorem dX10_handsBetween_173 : decode cX10_handsBetween 173 = .ok (.iastore, 1) := by decide +kernel
theorem dX10_handsBetween_174 : decode cX10_handsBetween 174 = .ok (.aload_n 0, 1) := by decide +kernel
theorem dX10_handsBetween_175 : decode cX10_handsBetween 175 = .ok (.getfield 60, 3) := by decide +kernel
theorem dX10_handsBetween_178 : decode cX10_handsBetween 178 = .ok (.iconst 1, 1) := by decide +kernel
theorem dX10_handsBetween_179 : decode cX10_handsBetween 179 = .ok (.iload 4, 2) := by decide +kernel
theorem dX10_handsBetween_181 : decode cX10_handsBetween 181 = .ok (.iastore, 1) := by decide +kernel
theorem dX10_handsBetween_182 : decode cX10_handsBetween 182 = .ok (.iconst 2, 1) := by decide +kernel
theorem dX10_handsBetween_183 : decode cX10_handsBetween 183 = .ok (.ireturn, 1) := by decide +kernel
theorem dX10_handsBetween_184 : decode cX10_handsBetween 184 = .ok (.iinc 4 1, 3) := by decide +kernel
theorem dX10_handsBetween_187 : decode cX10_handsBetween 187 = .ok (.goto (-103), 3) := by decide +kernel
theorem dX10_handsBetween_190 : decode cX10_handsBetween 190 = .ok (.iinc 3 1, 3) := by decide +kernel
theorem dX10_handsBetween_193 : decode cX10_handsBetween 193 = .ok (.goto (-122), 3) := by decide +kernel
theorem dX10_handsBetween_196 : decode cX10_handsBetween 196 = .ok (.iconst (-1), 1) := by decide +kernel
theorem dX10_handsBetween_197 : decode cX10_handsBetween 197 = .ok (.ireturn, 1) := by decide +kernel
theorem dX10_letter_0 : decode cX10_letter 0 = .ok (.aload_n 0, 1) := by decide +kernel
theorem dX10_letter_1 : decode cX10_letter 1 = .ok (.iload_n 1, 1) := by decide +kernel
theorem dX10_letter_2 : decode cX10_letter 2 = .ok (.invokevirtual 316, 3) := by decide +kernel
theorem dX10_letter_5 : decode cX10_letter 5 = .ok (.ifCond .eq 28, 3) := by decide +kernel
theorem dX10_letter_8 : decode cX10_letter 8 = .ok (.aload_n 0, 1) := by decide +kernel
theorem dX10_letter_9 : decode cX10_letter 9 = .ok (.iload_n 2, 1) := by decide +kernel
theorem dX10_letter_10 : decode cX10_letter 10 = .ok (.invokevirtual 316, 3) := by decide +kernel
theorem dX10_letter_13 : decode cX10_letter 13 = .ok (.ifCond .eq 20, 3) := by decide +kernel
theorem dX10_letter_16 : decode cX10_letter 16 = .ok (.iload_n 1, 1) := by decide +kernel
theorem dX10_letter_17 : decode cX10_letter 17 = .ok (.iload_n 2, 1) := by decide +kernel
theorem dX10_letter_18 : decode cX10_letter 18 = .ok (.if_icmp .eq 15, 3) := by decide +kernel
theorem dX10_letter_21 : decode cX10_letter 21 = .ok (.iload_n 3, 1) := by decide +kernel
theorem dX10_letter_22 : decode cX10_letter 22 = .ok (.i2l, 1) := by decide +kernel
theorem dX10_letter_23 : decode cX10_letter 23 = .ok (.lconst 0, 1) := by decide +kernel
theorem dX10_letter_24 : decode cX10_letter 24 = .ok (.ldc2_w 331, 3) := by decide +kernel
theorem dX10_letter_27 : decode cX10_letter 27 = .ok (.invokestatic 118, 3) := by decide +kernel
theorem dX10_letter_30 : decode cX10_letter 30 = .ok (.ifCond .ne 5, 3) := by decide +kernel
theorem dX10_letter_33 : decode cX10_letter 33 = .ok (.iconst (-1), 1) := by decide +kernel
theorem dX10_letter_34 : decode cX10_letter 34 = .ok (.ireturn, 1) := by decide +kernel
theorem dX10_letter_35 : decode cX10_letter 35 = .ok (.aload_n 0, 1) := by decide +kernel
theorem dX10_letter_36 : decode cX10_letter 36 = .ok (.iload_n 1, 1) := by decide +kernel
theorem dX10_letter_37 : decode cX10_letter 37 = .ok (.iload_n 2, 1) := by decide +kernel
theorem dX10_letter_38 : decode cX10_letter 38 = .ok (.invokevirtual 432, 3) := by decide +kernel
theorem dX10_letter_41 : decode cX10_letter 41 = .ok (.istore 4, 2) := by decide +kernel
theorem dX10_letter_43 : decode cX10_letter 43 = .ok (.iload 4, 2) := by decide +kernel
theorem dX10_letter_45 : decode cX10_letter 45 = .ok (.ifCond .lt 9, 3) := by decide +kernel
theorem dX10_letter_48 : decode cX10_letter 48 = .ok (.iload_n 3, 1) := by decide +kernel
theorem dX10_letter_49 : decode cX10_letter 49 = .ok (.iload 4, 2) := by decide +kernel
theorem dX10_letter_51 : decode cX10_letter 51 = .ok (.if_icmp .le 6, 3) := by decide +kernel
theorem dX10_letter_54 : decode cX10_letter 54 = .ok (.bipush (-2), 2) := by decide +kernel
theorem dX10_letter_56 : decode cX10_letter 56 = .ok (.ireturn, 1) := by decide +kernel
theorem dX10_letter_57 : decode cX10_letter 57 = .ok (.iload_n 3, 1) := by decide +kernel
theorem dX10_letter_58 : decode cX10_letter 58 = .ok (.ifCond .ne 8, 3) := by decide +kernel
theorem dX10_letter_61 : decode cX10_letter 61 = .ok (.iload 4, 2) := by decide +kernel
theorem dX10_letter_63 : decode cX10_letter 63 = .ok (.goto 11, 3) := by decide +kernel
theorem dX10_letter_66 : decode cX10_letter 66 = .ok (.aload_n 0, 1) := by decide +kernel
theorem dX10_letter_67 : decode cX10_letter 67 = .ok (.getfield 60, 3) := by decide +kernel
theorem dX10_letter_70 : decode cX10_letter 70 = .ok (.iload_n 3, 1) := by decide +kernel
theorem dX10_letter_71 : decode cX10_letter 71 = .ok (.iconst 1, 1) := by decide +kernel
theorem dX10_letter_72 : decode cX10_letter 72 = .ok (.isub, 1) := by decide +kernel
theorem dX10_letter_73 : decode cX10_letter 73 = .ok (.iaload, 1) := by decide +kernel
theorem dX10_letter_74 : decode cX10_letter 74 = .ok (.ireturn, 1) := by decide +kernel
theorem dX10_nextToGo_0 : decode cX10_nextToGo 0 = .ok (.iload_n 2, 1) := by decide +kernel
theorem dX10_nextToGo_1 : decode cX10_nextToGo 1 = .ok (.iconst 1, 1) := by decide +kernel
theorem dX10_nextToGo_2 : decode cX10_nextToGo 2 = .ok (.iadd, 1) := by decide +kernel
theorem dX10_nextToGo_3 : decode cX10_nextToGo 3 = .ok (.istore_n 3, 1) := by decide +kernel
theorem dX10_nextToGo_4 : decode cX10_nextToGo 4 = .ok (.iload_n 3, 1) := by decide +kernel
theorem dX10_nextToGo_5 : decode cX10_nextToGo 5 = .ok (.aload_n 0, 1) := by decide +kernel
theorem dX10_nextToGo_6 : decode cX10_nextToGo 6 = .ok (.getfield 39, 3) := by decide +kernel
theorem dX10_nextToGo_9 : decode cX10_nextToGo 9 = .ok (.iconst 2, 1) := by decide +kernel
theorem dX10_nextToGo_10 : decode cX10_nextToGo 10 = .ok (.iaload, 1) := by decide +kernel
theorem dX10_nextToGo_11 : decode cX10_nextToGo 11 = .ok (.if_icmp .ge 27, 3) := by decide +kernel
theorem dX10_nextToGo_14 : decode cX10_nextToGo 14 = .ok (.aload_n 0, 1) := by decide +kernel
theorem dX10_nextToGo_15 : decode cX10_nextToGo 15 = .ok (.getfield 63, 3) := by decide +kernel
theorem dX10_nextToGo_18 : decode cX10_nextToGo 18 = .ok (.iload_n 3, 1) := by decide +kernel
theorem dX10_nextToGo_19 : decode cX10_nextToGo 19 = .ok (.iaload, 1) := by decide +kernel
theorem dX10_nextToGo_20 : decode cX10_nextToGo 20 = .ok (.ifCond .eq 12, 3) := by decide +kernel
theorem dX10_nextToGo_23 : decode cX10_nextToGo 23 = .ok (.aload_n 0, 1) := by decide +kernel
theorem dX10_nextToGo_24 : decode cX10_nextToGo 24 = .ok (.iload_n 3, 1) := by decide +kernel
theorem dX10_nextToGo_25 : decode cX10_nextToGo 25 = .ok (.iload_n 1, 1) := by decide +kernel
theorem dX10_nextToGo_26 : decode cX10_nextToGo 26 = .ok (.invokevirtual 336, 3) := by decide +kernel
theorem dX10_nextToGo_29 : decode cX10_nextToGo 29 = .ok (.ifCond .ge 9, 3) := by decide +kernel
theorem dX10_nextToGo_32 : decode cX10_nextToGo 32 = .ok (.iinc 3 1, 3) := by decide +kernel
theorem dX10_nextToGo_35 : decode cX10_nextToGo 35 = .ok (.goto (-31), 3) := by decide +kernel
theorem dX10_nextToGo_38 : decode cX10_nextToGo 38 = .ok (.iload_n 3, 1) := by decide +kernel
theorem dX10_nextToGo_39 : decode cX10_nextToGo 39 = .ok (.ireturn, 1) := by decide +kernel
theorem dX10_findsRows_0 : decode cX10_findsRows 0 = .ok (.aload_n 0, 1) := by decide +kernel
theorem dX10_findsRows_1 : decode cX10_findsRows 1 = .ok (.iload_n 1, 1) := by decide +kernel
theorem dX10_findsRows_2 : decode cX10_findsRows 2 = .ok (.iconst 1, 1) := by decide +kernel
theorem dX10_findsRows_3 : decode cX10_findsRows 3 = .ok (.invokevirtual 307, 3) := by decide +kernel
theorem dX10_findsRows_6 : decode cX10_findsRows 6 = .ok (.istore_n 3, 1) := by decide +kernel
theorem dX10_findsRows_7 : decode cX10_findsRows 7 = .ok (.iconst 0, 1) := by decide +kernel
theorem dX10_findsRows_8 : decode cX10_findsRows 8 = .ok (.istore 4, 2) := by decide +kernel
theorem dX10_findsRows_10 : decode cX10_findsRows 10 = .ok (.aload_n 0, 1) := by decide +kernel
theorem dX10_findsRows_11 : decode cX10_findsRows 11 = .ok (.iconst 0, 1) := by decide +kernel
theorem dX10_findsRows_12 : decode cX10_findsRows 12 = .ok (.putfield 435, 3) := by decide +kernel
theorem dX10_findsRows_15 : decode cX10_findsRows 15 = .ok (.aload_n 0, 1) := by decide +kernel
theorem dX10_findsRows_16 : decode cX10_findsRows 16 = .ok (.iconst 0, 1) := by decide +kernel
theorem dX10_findsRows_17 : decode cX10_findsRows 17 = .ok (.putfield 438, 3) := by decide +kernel
theorem dX10_findsRows_20 : decode cX10_findsRows 20 = .ok (.aload_n 0, 1) := by decide +kernel
theorem dX10_findsRows_21 : decode cX10_findsRows 21 = .ok (.bipush (-2), 2) := by decide +kernel
theorem dX10_findsRows_23 : decode cX10_findsRows 23 = .ok (.putfield 441, 3) := by decide +kernel
theorem dX10_findsRows_26 : decode cX10_findsRows 26 = .ok (.aload_n 0, 1) := by decide +kernel
theorem dX10_findsRows_27 : decode cX10_findsRows 27 = .ok (.getfield 51, 3) := by decide +kernel
theorem dX10_findsRows_30 : decode cX10_findsRows 30 = .ok (.iconst 0, 1) := by decide +kernel
theorem dX10_findsRows_31 : decode cX10_findsRows 31 = .ok (.iconst (-1), 1) := by decide +kernel
theorem dX10_findsRows_32 : decode cX10_findsRows 32 = .ok (.iastore, 1) := by decide +kernel
theorem dX10_findsRows_33 : decode cX10_findsRows 33 = .ok (.iload 4, 2) := by decide +kernel
theorem dX10_findsRows_35 : decode cX10_findsRows 35 = .ok (.ifCond .lt 201, 3) := by decide +kernel
theorem dX10_findsRows_38 : decode cX10_findsRows 38 = .ok (.aload_n 0, 1) := by decide +kernel
theorem dX10_findsRows_39 : decode cX10_findsRows 39 = .ok (.getfield 51, 3) := by decide +kernel
theorem dX10_findsRows_42 : decode cX10_findsRows 42 = .ok (.iload 4, 2) := by decide +kernel
theorem dX10_findsRows_44 : decode cX10_findsRows 44 = .ok (.iaload, 1) := by decide +kernel
theorem dX10_findsRows_45 : decode cX10_findsRows 45 = .ok (.ifCond .lt 32, 3) := by decide +kernel
theorem dX10_findsRows_48 : decode cX10_findsRows 48 = .ok (.aload_n 0, 1) := by decide +kernel
theorem dX10_findsRows_49 : decode cX10_findsRows 49 = .ok (.aload_n 0, 1) := by decide +kernel
theorem dX10_findsRows_50 : decode cX10_findsRows 50 = .ok (.getfield 51, 3) := by decide +kernel
theorem dX10_findsRows_53 : decode cX10_findsRows 53 = .ok (.iload 4, 2) := by decide +kernel
theorem dX10_findsRows_55 : decode cX10_findsRows 55 = .ok (.iaload, 1) := by decide +kernel
theorem dX10_findsRows_56 : decode cX10_findsRows 56 = .ok (.iload_n 3, 1) := by decide +kernel
theorem dX10_findsRows_57 : decode cX10_findsRows 57 = .ok (.invokevirtual 336, 3) := by decide +kernel
theorem dX10_findsRows_60 : decode cX10_findsRows 60 = .ok (.istore_n 3, 1) := by decide +kernel
theorem dX10_findsRows_61 : decode cX10_findsRows 61 = .ok (.aload_n 0, 1) := by decide +kernel
theorem dX10_findsRows_62 : decode cX10_findsRows 62 = .ok (.getfield 63, 3) := by decide +kernel
theorem dX10_findsRows_65 : decode cX10_findsRows 65 = .ok (.aload_n 0, 1) := by decide +kernel
theorem dX10_findsRows_66 : decode cX10_findsRows 66 = .ok (.getfield 51, 3) := by decide +kernel
theorem dX10_findsRows_69 : decode cX10_findsRows 69 = .ok (.iload 4, 2) := by decide +kernel
theorem dX10_findsRows_71 : decode cX10_findsRows 71 = .ok (.iaload, 1) := by decide +kernel
theorem dX10_findsRows_72 : decode cX10_findsRows 72 = .ok (.dup2, 1) := by decide +kernel
theorem dX10_findsRows_73 : decode cX10_findsRows 73 = .ok (.iaload, 1) := by decide +kernel
theorem dX10_findsRows_74 : decode cX10_findsRows 74 = .ok (.iconst 1, 1) := by decide +kernel
theorem dX10_findsRows_75 : decode cX10_findsRows 75 = .ok (.iadd, 1) := by decide +kernel
theorem dX10_findsRows_76 : decode cX10_findsRows 76 = .ok (.iastore, 1) := by decide +kernel
theorem dX10_findsRows_77 : decode cX10_findsRows 77 = .ok (.aload_n 0, 1) := by decide +kernel
theorem dX10_findsRows_78 : decode cX10_findsRows 78 = .ok (.getfield 51, 3) := by decide +kernel
theorem dX10_findsRows_81 : decode cX10_findsRows 81 = .ok (.iload 4, 2) := by decide +kernel
theorem dX10_findsRows_83 : decode cX10_findsRows 83 = .ok (.aload_n 0, 1) := by decide +kernel
theorem dX10_findsRows_84 : decode cX10_findsRows 84 = .ok (.iload_n 3, 1) := by decide +kernel
theorem dX10_findsRows_85 : decode cX10_findsRows 85 = .ok (.aload_n 0, 1) := by decide +kernel
theorem dX10_findsRows_86 : decode cX10_findsRows 86 = .ok (.getfield 51, 3) := by decide +kernel
theorem dX10_findsRows_89 : decode cX10_findsRows 89 = .ok (.iload 4, 2) := by decide +kernel
theorem dX10_findsRows_91 : decode cX10_findsRows 91 = .ok (.iaload, 1) := by decide +kernel
theorem dX10_findsRows_92 : decode cX10_findsRows 92 = .ok (.invokevirtual 444, 3) := by decide +kernel
theorem dX10_findsRows_95 : decode cX10_findsRows 95 = .ok (.iastore, 1) := by decide +kernel
theorem dX10_findsRows_96 : decode cX10_findsRows 96 = .ok (.aload_n 0, 1) := by decide +kernel
theorem dX10_findsRows_97 : decode cX10_findsRows 97 = .ok (.getfield 51, 3) := by decide +kernel
theorem dX10_findsRows_100 : decode cX10_findsRows 100 = .ok (.iload 4, 2) := by decide +kernel
theorem dX10_findsRows_102 : decode cX10_findsRows 102 = .ok (.iaload, 1) := by decide +kernel
theorem dX10_findsRows_103 : decode cX10_findsRows 103 = .ok (.aload_n 0, 1) := by decide +kernel
theorem dX10_findsRows_104 : decode cX10_findsRows 104 = .ok (.getfield 39, 3) := by decide +kernel
theorem dX10_findsRows_107 : decode cX10_findsRows 107 = .ok (.iconst 2, 1) := by decide +kernel
theorem dX10_findsRows_108 : decode cX10_findsRows 108 = .ok (.iaload, 1) := by decide +kernel
theorem dX10_findsRows_109 : decode cX10_findsRows 109 = .ok (.if_icmp .ne 17, 3) := by decide +kernel
theorem dX10_findsRows_112 : decode cX10_findsRows 112 = .ok (.aload_n 0, 1) := by decide +kernel
theorem dX10_findsRows_113 : decode cX10_findsRows 113 = .ok (.getfield 51, 3) := by decide +kernel
theorem dX10_findsRows_116 : decode cX10_findsRows 116 = .ok (.iload 4, 2) := by decide +kernel
theorem dX10_findsRows_118 : decode cX10_findsRows 118 = .ok (.iconst (-1), 1) := by decide +kernel
theorem dX10_findsRows_119 : decode cX10_findsRows 119 = .ok (.iastore, 1) := by decide +kernel
theorem dX10_findsRows_120 : decode cX10_findsRows 120 = .ok (.iinc 4 (-1), 3) := by decide +kernel
theorem dX10_findsRows_123 : decode cX10_findsRows 123 = .ok (.goto (-90), 3) := by decide +kernel
theorem dX10_findsRows_126 : decode cX10_findsRows 126 = .ok (.aload_n 0, 1) := by decide +kernel
theorem dX10_findsRows_127 : decode cX10_findsRows 127 = .ok (.getfield 63, 3) := by decide +kernel
theorem dX10_findsRows_130 : decode cX10_findsRows 130 = .ok (.aload_n 0, 1) := by decide +kernel
theorem dX10_findsRows_131 : decode cX10_findsRows 131 = .ok (.getfield 51, 3) := by decide +kernel
theorem dX10_findsRows_134 : decode cX10_findsRows 134 = .ok (.iload 4, 2) := by decide +kernel
theorem dX10_findsRows_136 : decode cX10_findsRows 136 = .ok (.iaload, 1) := by decide +kernel
theorem dX10_findsRows_137 : decode cX10_findsRows 137 = .ok (.dup2, 1) := by decide +kernel
theorem dX10_findsRows_138 : decode cX10_findsRows 138 = .ok (.iaload, 1) := by decide +kernel
theorem dX10_findsRows_139 : decode cX10_findsRows 139 = .ok (.iconst 1, 1) := by decide +kernel
theorem dX10_findsRows_140 : decode cX10_findsRows 140 = .ok (.isub, 1) := by decide +kernel
theorem dX10_findsRows_141 : decode cX10_findsRows 141 = .ok (.iastore, 1) := by decide +kernel
theorem dX10_findsRows_142 : decode cX10_findsRows 142 = .ok (.aload_n 0, 1) := by decide +kernel
theorem dX10_findsRows_143 : decode cX10_findsRows 143 = .ok (.aload_n 0, 1) := by decide +kernel
theorem dX10_findsRows_144 : decode cX10_findsRows 144 = .ok (.getfield 51, 3) := by decide +kernel
theorem dX10_findsRows_147 : decode cX10_findsRows 147 = .ok (.iload 4, 2) := by decide +kernel
theorem dX10_findsRows_149 : decode cX10_findsRows 149 = .ok (.iaload, 1) := by decide +kernel
theorem dX10_findsRows_150 : decode cX10_findsRows 150 = .ok (.iload_n 3, 1) := by decide +kernel
theorem dX10_findsRows_151 : decode cX10_findsRows 151 = .ok (.invokevirtual 336, 3) := by decide +kernel
theorem dX10_findsRows_154 : decode cX10_findsRows 154 = .ok (.istore_n 3, 1) := by decide +kernel
theorem dX10_findsRows_155 : decode cX10_findsRows 155 = .ok (.iload 4, 2) := by decide +kernel
theorem dX10_findsRows_157 : decode cX10_findsRows 157 = .ok (.iload_n 2, 1) := by decide +kernel
theorem dX10_findsRows_158 : decode cX10_findsRows 158 = .ok (.iconst 1, 1) := by decide +kernel
theorem dX10_findsRows_159 : decode cX10_findsRows 159 = .ok (.isub, 1) := by decide +kernel
theorem dX10_findsRows_160 : decode cX10_findsRows 160 = .ok (.if_icmp .ge 17, 3) := by decide +kernel
theorem dX10_findsRows_163 : decode cX10_findsRows 163 = .ok (.iinc 4 1, 3) := by decide +kernel
theorem dX10_findsRows_166 : decode cX10_findsRows 166 = .ok (.aload_n 0, 1) := by decide +kernel
theorem dX10_findsRows_167 : decode cX10_findsRows 167 = .ok (.getfield 51, 3) := by decide +kernel
theorem dX10_findsRows_170 : decode cX10_findsRows 170 = .ok (.iload 4, 2) := by decide +kernel
theorem dX10_findsRows_172 : decode cX10_findsRows 172 = .ok (.iconst (-1), 1) := by decide +kernel
theorem dX10_findsRows_173 : decode cX10_findsRows 173 = .ok (.iastore, 1) := by decide +kernel
theorem dX10_findsRows_174 : decode cX10_findsRows 174 = .ok (.goto (-141), 3) := by decide +kernel
theorem dX10_findsRows_177 : decode cX10_findsRows 177 = .ok (.iload_n 3, 1) := by decide +kernel
theorem dX10_findsRows_178 : decode cX10_findsRows 178 = .ok (.aload_n 0, 1) := by decide +kernel
theorem dX10_findsRows_179 : decode cX10_findsRows 179 = .ok (.iload_n 1, 1) := by decide +kernel
theorem dX10_findsRows_180 : decode cX10_findsRows 180 = .ok (.iconst 0, 1) := by decide +kernel
theorem dX10_findsRows_181 : decode cX10_findsRows 181 = .ok (.invokevirtual 307, 3) := by decide +kernel
theorem dX10_findsRows_184 : decode cX10_findsRows 184 = .ok (.if_icmp .ne (-151), 3) := by decide +kernel
theorem dX10_findsRows_187 : decode cX10_findsRows 187 = .ok (.aload_n 0, 1) := by decide +kernel
theorem dX10_findsRows_188 : decode cX10_findsRows 188 = .ok (.getfield 435, 3) := by decide +kernel
theorem dX10_findsRows_191 : decode cX10_findsRows 191 = .ok (.ifCond .ne 14, 3) := by decide +kernel
theorem dX10_findsRows_194 : decode cX10_findsRows 194 = .ok (.aload_n 0, 1) := by decide +kernel
theorem dX10_findsRows_195 : decode cX10_findsRows 195 = .ok (.aload_n 0, 1) := by decide +kernel
theorem dX10_findsRows_196 : decode cX10_findsRows 196 = .ok (.getfield 51, 3) := by decide +kernel
theorem dX10_findsRows_199 : decode cX10_findsRows 199 = .ok (.iload 4, 2) := by decide +kernel
theorem dX10_findsRows_201 : decode cX10_findsRows 201 = .ok (.iaload, 1) := by decide +kernel
theorem dX10_findsRows_202 : decode cX10_findsRows 202 = .ok (.putfield 441, 3) := by decide +kernel
theorem dX10_findsRows_205 : decode cX10_findsRows 205 = .ok (.aload_n 0, 1) := by decide +kernel
theorem dX10_findsRows_206 : decode cX10_findsRows 206 = .ok (.dup, 1) := by decide +kernel
theorem dX10_findsRows_207 : decode cX10_findsRows 207 = .ok (.getfield 438, 3) := by decide +kernel
theorem dX10_findsRows_210 : decode cX10_findsRows 210 = .ok (.iconst 1, 1) := by decide +kernel
theorem dX10_findsRows_211 : decode cX10_findsRows 211 = .ok (.aload_n 0, 1) := by decide +kernel
theorem dX10_findsRows_212 : decode cX10_findsRows 212 = .ok (.getfield 51, 3) := by decide +kernel
theorem dX10_findsRows_215 : decode cX10_findsRows 215 = .ok (.iload 4, 2) := by decide +kernel
theorem dX10_findsRows_217 : decode cX10_findsRows 217 = .ok (.iaload, 1) := by decide +kernel
theorem dX10_findsRows_218 : decode cX10_findsRows 218 = .ok (.ishl, 1) := by decide +kernel
theorem dX10_findsRows_219 : decode cX10_findsRows 219 = .ok (.ior, 1) := by decide +kernel
theorem dX10_findsRows_220 : decode cX10_findsRows 220 = .ok (.putfield 438, 3) := by decide +kernel
theorem dX10_findsRows_223 : decode cX10_findsRows 223 = .ok (.aload_n 0, 1) := by decide +kernel
theorem dX10_findsRows_224 : decode cX10_findsRows 224 = .ok (.dup, 1) := by decide +kernel
theorem dX10_findsRows_225 : decode cX10_findsRows 225 = .ok (.getfield 435, 3) := by decide +kernel
theorem dX10_findsRows_228 : decode cX10_findsRows 228 = .ok (.iconst 1, 1) := by decide +kernel
theorem dX10_findsRows_229 : decode cX10_findsRows 229 = .ok (.iadd, 1) := by decide +kernel
theorem dX10_findsRows_230 : decode cX10_findsRows 230 = .ok (.putfield 435, 3) := by decide +kernel
theorem dX10_findsRows_233 : decode cX10_findsRows 233 = .ok (.goto (-200), 3) := by decide +kernel
theorem dX10_findsRows_236 : decode cX10_findsRows 236 = .ok (.return_, 1) := by decide +kernel
theorem dX10_came_0 : decode cX10_came 0 = .ok (.aload_n 0, 1) := by decide +kernel
theorem dX10_came_1 : decode cX10_came 1 = .ok (.iload_n 1, 1) := by decide +kernel
theorem dX10_came_2 : decode cX10_came 2 = .ok (.invokevirtual 316, 3) := by decide +kernel
theorem dX10_came_5 : decode cX10_came 5 = .ok (.ifCond .eq 15, 3) := by decide +kernel
theorem dX10_came_8 : decode cX10_came 8 = .ok (.iload_n 2, 1) := by decide +kernel
theorem dX10_came_9 : decode cX10_came 9 = .ok (.i2l, 1) := by decide +kernel
theorem dX10_came_10 : decode cX10_came 10 = .ok (.lconst 0, 1) := by decide +kernel
theorem dX10_came_11 : decode cX10_came 11 = .ok (.ldc2_w 331, 3) := by decide +kernel
theorem dX10_came_14 : decode cX10_came 14 = .ok (.invokestatic 118, 3) := by decide +kernel
theorem dX10_came_17 : decode cX10_came 17 = .ok (.ifCond .ne 5, 3) := by decide +kernel
theorem dX10_came_20 : decode cX10_came 20 = .ok (.iconst (-1), 1) := by decide +kernel
theorem dX10_came_21 : decode cX10_came 21 = .ok (.ireturn, 1) := by decide +kernel
theorem dX10_came_22 : decode cX10_came 22 = .ok (.iconst 0, 1) := by decide +kernel
theorem dX10_came_23 : decode cX10_came 23 = .ok (.istore_n 3, 1) := by decide +kernel
theorem dX10_came_24 : decode cX10_came 24 = .ok (.iconst 0, 1) := by decide +kernel
theorem dX10_came_25 : decode cX10_came 25 = .ok (.istore 4, 2) := by decide +kernel
theorem dX10_came_27 : decode cX10_came 27 = .ok (.iload 4, 2) := by decide +kernel
theorem dX10_came_29 : decode cX10_came 29 = .ok (.aload_n 0, 1) := by decide +kernel
theorem dX10_came_30 : decode cX10_came 30 = .ok (.getfield 39, 3) := by decide +kernel
theorem dX10_came_33 : decode cX10_came 33 = .ok (.iconst 2, 1) := by decide +kernel
theorem dX10_came_34 : decode cX10_came 34 = .ok (.iaload, 1) := by decide +kernel
theorem dX10_came_35 : decode cX10_came 35 = .ok (.if_icmp .ge 41, 3) := by decide +kernel
theorem dX10_came_38 : decode cX10_came 38 = .ok (.aload_n 0, 1) := by decide +kernel
theorem dX10_came_39 : decode cX10_came 39 = .ok (.getfield 63, 3) := by decide +kernel
theorem dX10_came_42 : decode cX10_came 42 = .ok (.iload 4, 2) := by decide +kernel
theorem dX10_came_44 : decode cX10_came 44 = .ok (.aload_n 0, 1) := by decide +kernel
theorem dX10_came_45 : decode cX10_came 45 = .ok (.getfield 39, 3) := by decide +kernel
theorem dX10_came_48 : decode cX10_came 48 = .ok (.bipush 58, 2) := by decide +kernel
theorem dX10_came_50 : decode cX10_came 50 = .ok (.bipush 9, 2) := by decide +kernel
theorem dX10_came_52 : decode cX10_came 52 = .ok (.iload_n 1, 1) := by decide +kernel
theorem dX10_came_53 : decode cX10_came 53 = .ok (.imul, 1) := by decide +kernel
theorem dX10_came_54 : decode cX10_came 54 = .ok (.iadd, 1) := by decide +kernel
theorem dX10_came_55 : decode cX10_came 55 = .ok (.iload 4, 2) := by decide +kernel
theorem dX10_came_57 : decode cX10_came 57 = .ok (.iadd, 1) := by decide +kernel
theorem dX10_came_58 : decode cX10_came 58 = .ok (.iaload, 1) := by decide +kernel
theorem dX10_came_59 : decode cX10_came 59 = .ok (.iastore, 1) := by decide +kernel
theorem dX10_came_60 : decode cX10_came 60 = .ok (.iload_n 3, 1) := by decide +kernel
theorem dX10_came_61 : decode cX10_came 61 = .ok (.aload_n 0, 1) := by decide +kernel
theorem dX10_came_62 : decode cX10_came 62 = .ok (.getfield 63, 3) := by decide +kernel
theorem dX10_came_65 : decode cX10_came 65 = .ok (.iload 4, 2) := by decide +kernel
theorem dX10_came_67 : decode cX10_came 67 = .ok (.iaload, 1) := by decide +kernel
theorem dX10_came_68 : decode cX10_came 68 = .ok (.iadd, 1) := by decide +kernel
theorem dX10_came_69 : decode cX10_came 69 = .ok (.istore_n 3, 1) := by decide +kernel
theorem dX10_came_70 : decode cX10_came 70 = .ok (.iinc 4 1, 3) := by decide +kernel
theorem dX10_came_73 : decode cX10_came 73 = .ok (.goto (-46), 3) := by decide +kernel
theorem dX10_came_76 : decode cX10_came 76 = .ok (.iload_n 3, 1) := by decide +kernel
theorem dX10_came_77 : decode cX10_came 77 = .ok (.bipush 8, 2) := by decide +kernel
theorem dX10_came_79 : decode cX10_came 79 = .ok (.if_icmp .le 6, 3) := by decide +kernel
theorem dX10_came_82 : decode cX10_came 82 = .ok (.bipush (-3), 2) := by decide +kernel
theorem dX10_came_84 : decode cX10_came 84 = .ok (.ireturn, 1) := by decide +kernel
theorem dX10_came_85 : decode cX10_came 85 = .ok (.iload_n 3, 1) := by decide +kernel
theorem dX10_came_86 : decode cX10_came 86 = .ok (.ifCond .ne 42, 3) := by decide +kernel
theorem dX10_came_89 : decode cX10_came 89 = .ok (.iload_n 2, 1) := by decide +kernel
theorem dX10_came_90 : decode cX10_came 90 = .ok (.ifCond .ne 26, 3) := by decide +kernel
theorem dX10_came_93 : decode cX10_came 93 = .ok (.aload_n 0, 1) := by decide +kernel
theorem dX10_came_94 : decode cX10_came 94 = .ok (.iload_n 1, 1) := by decide +kernel
theorem dX10_came_95 : decode cX10_came 95 = .ok (.iconst 0, 1) := by decide +kernel
theorem dX10_came_96 : decode cX10_came 96 = .ok (.invokevirtual 307, 3) := by decide +kernel
theorem dX10_came_99 : decode cX10_came 99 = .ok (.aload_n 0, 1) := by decide +kernel
theorem dX10_came_100 : decode cX10_came 100 = .ok (.iload_n 1, 1) := by decide +kernel
theorem dX10_came_101 : decode cX10_came 101 = .ok (.iconst 1, 1) := by decide +kernel
theorem dX10_came_102 : decode cX10_came 102 = .ok (.invokevirtual 307, 3) := by decide +kernel
theorem dX10_came_105 : decode cX10_came 105 = .ok (.if_icmp .ne 7, 3) := by decide +kernel
theorem dX10_came_108 : decode cX10_came 108 = .ok (.iconst 1, 1) := by decide +kernel
theorem dX10_came_109 : decode cX10_came 109 = .ok (.goto 18, 3) := by decide +kernel
theorem dX10_came_112 : decode cX10_came 112 = .ok (.iconst 0, 1) := by decide +kernel
theorem dX10_came_113 : decode cX10_came 113 = .ok (.goto 14, 3) := by decide +kernel
theorem dX10_came_116 : decode cX10_came 116 = .ok (.iload_n 2, 1) := by decide +kernel
theorem dX10_came_117 : decode cX10_came 117 = .ok (.iconst 1, 1) := by decide +kernel
theorem dX10_came_118 : decode cX10_came 118 = .ok (.if_icmp .ne 7, 3) := by decide +kernel
theorem dX10_came_121 : decode cX10_came 121 = .ok (.iconst 0, 1) := by decide +kernel
theorem dX10_came_122 : decode cX10_came 122 = .ok (.goto 5, 3) := by decide +kernel
theorem dX10_came_125 : decode cX10_came 125 = .ok (.bipush (-2), 2) := by decide +kernel
theorem dX10_came_127 : decode cX10_came 127 = .ok (.ireturn, 1) := by decide +kernel
theorem dX10_came_128 : decode cX10_came 128 = .ok (.aload_n 0, 1) := by decide +kernel
theorem dX10_came_129 : decode cX10_came 129 = .ok (.iload_n 1, 1) := by decide +kernel
theorem dX10_came_130 : decode cX10_came 130 = .ok (.iload_n 3, 1) := by decide +kernel
theorem dX10_came_131 : decode cX10_came 131 = .ok (.invokevirtual 447, 3) := by decide +kernel
theorem dX10_came_134 : decode cX10_came 134 = .ok (.iload_n 2, 1) := by decide +kernel
theorem dX10_came_135 : decode cX10_came 135 = .ok (.ifCond .ne 10, 3) := by decide +kernel
theorem dX10_came_138 : decode cX10_came 138 = .ok (.aload_n 0, 1) := by decide +kernel
theorem dX10_came_139 : decode cX10_came 139 = .ok (.getfield 435, 3) := by decide +kernel
theorem dX10_came_142 : decode cX10_came 142 = .ok (.goto 19, 3) := by decide +kernel
theorem dX10_came_145 : decode cX10_came 145 = .ok (.iload_n 2, 1) := by decide +kernel
theorem dX10_came_146 : decode cX10_came 146 = .ok (.iconst 1, 1) := by decide +kernel
theorem dX10_came_147 : decode cX10_came 147 = .ok (.if_icmp .ne 10, 3) := by decide +kernel
theorem dX10_came_150 : decode cX10_came 150 = .ok (.aload_n 0, 1) := by decide +kernel
theorem dX10_came_151 : decode cX10_came 151 = .ok (.getfield 438, 3) := by decide +kernel
theorem dX10_came_154 : decode cX10_came 154 = .ok (.goto 7, 3) := by decide +kernel
theorem dX10_came_157 : decode cX10_came 157 = .ok (.aload_n 0, 1) := by decide +kernel
theorem dX10_came_158 : decode cX10_came 158 = .ok (.getfield 441, 3) := by decide +kernel
theorem dX10_came_161 : decode cX10_came 161 = .ok (.ireturn, 1) := by decide +kernel
theorem dX10_findsTrail_0 : decode cX10_findsTrail 0 = .ok (.iconst 0, 1) := by decide +kernel
theorem dX10_findsTrail_1 : decode cX10_findsTrail 1 = .ok (.istore_n 2, 1) := by decide +kernel
theorem dX10_findsTrail_2 : decode cX10_findsTrail 2 = .ok (.aload_n 0, 1) := by decide +kernel
theorem dX10_findsTrail_3 : decode cX10_findsTrail 3 = .ok (.iconst 0, 1) := by decide +kernel
theorem dX10_findsTrail_4 : decode cX10_findsTrail 4 = .ok (.putfield 391, 3) := by decide +kernel
theorem dX10_findsTrail_7 : decode cX10_findsTrail 7 = .ok (.aload_n 0, 1) := by decide +kernel
theorem dX10_findsTrail_8 : decode cX10_findsTrail 8 = .ok (.aload_n 0, 1) := by decide +kernel
theorem dX10_findsTrail_9 : decode cX10_findsTrail 9 = .ok (.iload_n 1, 1) := by decide +kernel
theorem dX10_findsTrail_10 : decode cX10_findsTrail 10 = .ok (.iconst 0, 1) := by decide +kernel
theorem dX10_findsTrail_11 : decode cX10_findsTrail 11 = .ok (.invokevirtual 307, 3) := by decide +kernel
theorem dX10_findsTrail_14 : decode cX10_findsTrail 14 = .ok (.putfield 450, 3) := by decide +kernel
theorem dX10_findsTrail_17 : decode cX10_findsTrail 17 = .ok (.aload_n 0, 1) := by decide +kernel
theorem dX10_findsTrail_18 : decode cX10_findsTrail 18 = .ok (.getfield 51, 3) := by decide +kernel
theorem dX10_findsTrail_21 : decode cX10_findsTrail 21 = .ok (.iconst 0, 1) := by decide +kernel
theorem dX10_findsTrail_22 : decode cX10_findsTrail 22 = .ok (.iconst (-1), 1) := by decide +kernel
theorem dX10_findsTrail_23 : decode cX10_findsTrail 23 = .ok (.iastore, 1) := by decide +kernel
theorem dX10_findsTrail_24 : decode cX10_findsTrail 24 = .ok (.iload_n 2, 1) := by decide +kernel
theorem dX10_findsTrail_25 : decode cX10_findsTrail 25 = .ok (.ifCond .lt 143, 3) := by decide +kernel
theorem dX10_findsTrail_28 : decode cX10_findsTrail 28 = .ok (.aload_n 0, 1) := by decide +kernel
theorem dX10_findsTrail_29 : decode cX10_findsTrail 29 = .ok (.getfield 51, 3) := by decide +kernel
theorem dX10_findsTrail_32 : decode cX10_findsTrail 32 = .ok (.iload_n 2, 1) := by decide +kernel
theorem dX10_findsTrail_33 : decode cX10_findsTrail 33 = .ok (.iaload, 1) := by decide +kernel
theorem dX10_findsTrail_34 : decode cX10_findsTrail 34 = .ok (.ifCond .lt 14, 3) := by decide +kernel
theorem dX10_findsTrail_37 : decode cX10_findsTrail 37 = .ok (.aload_n 0, 1) := by decide +kernel
theorem dX10_findsTrail_38 : decode cX10_findsTrail 38 = .ok (.iload_n 1, 1) := by decide +kernel
theorem dX10_findsTrail_39 : decode cX10_findsTrail 39 = .ok (.aload_n 0, 1) := by decide +kernel
theorem dX10_findsTrail_40 : decode cX10_findsTrail 40 = .ok (.getfield 51, 3) := by decide +kernel
theorem dX10_findsTrail_43 : decode cX10_findsTrail 43 = .ok (.iload_n 2, 1) := by decide +kernel
theorem dX10_findsTrail_44 : decode cX10_findsTrail 44 = .ok (.iaload, 1) := by decide +kernel
theorem dX10_findsTrail_45 : decode cX10_findsTrail 45 = .ok (.invokevirtual 394, 3) := by decide +kernel
theorem dX10_findsTrail_48 : decode cX10_findsTrail 48 = .ok (.aload_n 0, 1) := by decide +kernel
theorem dX10_findsTrail_49 : decode cX10_findsTrail 49 = .ok (.getfield 51, 3) := by decide +kernel
theorem dX10_findsTrail_52 : decode cX10_findsTrail 52 = .ok (.iload_n 2, 1) := by decide +kernel
theorem dX10_findsTrail_53 : decode cX10_findsTrail 53 = .ok (.aload_n 0, 1) := by decide +kernel
theorem dX10_findsTrail_54 : decode cX10_findsTrail 54 = .ok (.getfield 391, 3) := by decide +kernel
theorem dX10_findsTrail_57 : decode cX10_findsTrail 57 = .ok (.bipush 8, 2) := by decide +kernel
theorem dX10_findsTrail_59 : decode cX10_findsTrail 59 = .ok (.if_icmp .ne 12, 3) := by decide +kernel
theorem dX10_findsTrail_62 : decode cX10_findsTrail 62 = .ok (.aload_n 0, 1) := by decide +kernel
theorem dX10_findsTrail_63 : decode cX10_findsTrail 63 = .ok (.getfield 39, 3) := by decide +kernel
theorem dX10_findsTrail_66 : decode cX10_findsTrail 66 = .ok (.iconst 2, 1) := by decide +kernel
theorem dX10_findsTrail_67 : decode cX10_findsTrail 67 = .ok (.iaload, 1) := by decide +kernel
theorem dX10_findsTrail_68 : decode cX10_findsTrail 68 = .ok (.goto 14, 3) := by decide +kernel
theorem dX10_findsTrail_71 : decode cX10_findsTrail 71 = .ok (.aload_n 0, 1) := by decide +kernel
theorem dX10_findsTrail_72 : decode cX10_findsTrail 72 = .ok (.iload_n 1, 1) := by decide +kernel
theorem dX10_findsTrail_73 : decode cX10_findsTrail 73 = .ok (.aload_n 0, 1) := by decide +kernel
theorem dX10_findsTrail_74 : decode cX10_findsTrail 74 = .ok (.getfield 51, 3) := by decide +kernel
theorem dX10_findsTrail_77 : decode cX10_findsTrail 77 = .ok (.iload_n 2, 1) := by decide +kernel
theorem dX10_findsTrail_78 : decode cX10_findsTrail 78 = .ok (.iaload, 1) := by decide +kernel
theorem dX10_findsTrail_79 : decode cX10_findsTrail 79 = .ok (.invokevirtual 397, 3) := by decide +kernel
theorem dX10_findsTrail_82 : decode cX10_findsTrail 82 = .ok (.iastore, 1) := by decide +kernel
theorem dX10_findsTrail_83 : decode cX10_findsTrail 83 = .ok (.aload_n 0, 1) := by decide +kernel
theorem dX10_findsTrail_84 : decode cX10_findsTrail 84 = .ok (.getfield 51, 3) := by decide +kernel
theorem dX10_findsTrail_87 : decode cX10_findsTrail 87 = .ok (.iload_n 2, 1) := by decide +kernel
theorem dX10_findsTrail_88 : decode cX10_findsTrail 88 = .ok (.iaload, 1) := by decide +kernel
theorem dX10_findsTrail_89 : decode cX10_findsTrail 89 = .ok (.aload_n 0, 1) := by decide +kernel
theorem dX10_findsTrail_90 : decode cX10_findsTrail 90 = .ok (.getfield 39, 3) := by decide +kernel
theorem dX10_findsTrail_93 : decode cX10_findsTrail 93 = .ok (.iconst 2, 1) := by decide +kernel
theorem dX10_findsTrail_94 : decode cX10_findsTrail 94 = .ok (.iaload, 1) := by decide +kernel
theorem dX10_findsTrail_95 : decode cX10_findsTrail 95 = .ok (.if_icmp .ne 16, 3) := by decide +kernel
theorem dX10_findsTrail_98 : decode cX10_findsTrail 98 = .ok (.aload_n 0, 1) := by decide +kernel
theorem dX10_findsTrail_99 : decode cX10_findsTrail 99 = .ok (.getfield 51, 3) := by decide +kernel
theorem dX10_findsTrail_102 : decode cX10_findsTrail 102 = .ok (.iload_n 2, 1) := by decide +kernel
theorem dX10_findsTrail_103 : decode cX10_findsTrail 103 = .ok (.iconst (-1), 1) := by decide +kernel
theorem dX10_findsTrail_104 : decode cX10_findsTrail 104 = .ok (.iastore, 1) := by decide +kernel
theorem dX10_findsTrail_105 : decode cX10_findsTrail 105 = .ok (.iinc 2 (-1), 3) := by decide +kernel
theorem dX10_findsTrail_108 : decode cX10_findsTrail 108 = .ok (.goto (-84), 3) := by decide +kernel
theorem dX10_findsTrail_111 : decode cX10_findsTrail 111 = .ok (.aload_n 0, 1) := by decide +kernel
theorem dX10_findsTrail_112 : decode cX10_findsTrail 112 = .ok (.iload_n 1, 1) := by decide +kernel
theorem dX10_findsTrail_113 : decode cX10_findsTrail 113 = .ok (.aload_n 0, 1) := by decide +kernel
theorem dX10_findsTrail_114 : decode cX10_findsTrail 114 = .ok (.getfield 51, 3) := by decide +kernel
theorem dX10_findsTrail_117 : decode cX10_findsTrail 117 = .ok (.iload_n 2, 1) := by decide +kernel
theorem dX10_findsTrail_118 : decode cX10_findsTrail 118 = .ok (.iaload, 1) := by decide +kernel
theorem dX10_findsTrail_119 : decode cX10_findsTrail 119 = .ok (.invokevirtual 400, 3) := by decide +kernel
theorem dX10_findsTrail_122 : decode cX10_findsTrail 122 = .ok (.iload_n 2, 1) := by decide +kernel
theorem dX10_findsTrail_123 : decode cX10_findsTrail 123 = .ok (.iconst 1, 1) := by decide +kernel
theorem dX10_findsTrail_124 : decode cX10_findsTrail 124 = .ok (.iadd, 1) := by decide +kernel
theorem dX10_findsTrail_125 : decode cX10_findsTrail 125 = .ok (.aload_n 0, 1) := by decide +kernel
theorem dX10_findsTrail_126 : decode cX10_findsTrail 126 = .ok (.getfield 391, 3) := by decide +kernel
theorem dX10_findsTrail_129 : decode cX10_findsTrail 129 = .ok (.if_icmp .le 20, 3) := by decide +kernel
theorem dX10_findsTrail_132 : decode cX10_findsTrail 132 = .ok (.aload_n 0, 1) := by decide +kernel
theorem dX10_findsTrail_133 : decode cX10_findsTrail 133 = .ok (.iload_n 2, 1) := by decide +kernel
theorem dX10_findsTrail_134 : decode cX10_findsTrail 134 = .ok (.iconst 1, 1) := by decide +kernel
theorem dX10_findsTrail_135 : decode cX10_findsTrail 135 = .ok (.iadd, 1) := by decide +kernel
theorem dX10_findsTrail_136 : decode cX10_findsTrail 136 = .ok (.putfield 391, 3) := by decide +kernel
theorem dX10_findsTrail_139 : decode cX10_findsTrail 139 = .ok (.aload_n 0, 1) := by decide +kernel
theorem dX10_findsTrail_140 : decode cX10_findsTrail 140 = .ok (.aload_n 0, 1) := by decide +kernel
theorem dX10_findsTrail_141 : decode cX10_findsTrail 141 = .ok (.iload_n 1, 1) := by decide +kernel
theorem dX10_findsTrail_142 : decode cX10_findsTrail 142 = .ok (.iconst 0, 1) := by decide +kernel
theorem dX10_findsTrail_143 : decode cX10_findsTrail 143 = .ok (.invokevirtual 307, 3) := by decide +kernel
theorem dX10_findsTrail_146 : decode cX10_findsTrail 146 = .ok (.putfield 450, 3) := by decide +kernel
theorem dX10_findsTrail_149 : decode cX10_findsTrail 149 = .ok (.iload_n 2, 1) := by decide +kernel
theorem dX10_findsTrail_150 : decode cX10_findsTrail 150 = .ok (.bipush 7, 2) := by decide +kernel
theorem dX10_findsTrail_152 : decode cX10_findsTrail 152 = .ok (.if_icmp .ge (-128), 3) := by decide +kernel
theorem dX10_findsTrail_155 : decode cX10_findsTrail 155 = .ok (.iinc 2 1, 3) := by decide +kernel
theorem dX10_findsTrail_158 : decode cX10_findsTrail 158 = .ok (.aload_n 0, 1) := by decide +kernel
theorem dX10_findsTrail_159 : decode cX10_findsTrail 159 = .ok (.getfield 51, 3) := by decide +kernel
theorem dX10_findsTrail_162 : decode cX10_findsTrail 162 = .ok (.iload_n 2, 1) := by decide +kernel
theorem dX10_findsTrail_163 : decode cX10_findsTrail 163 = .ok (.iconst (-1), 1) := by decide +kernel
theorem dX10_findsTrail_164 : decode cX10_findsTrail 164 = .ok (.iastore, 1) := by decide +kernel
theorem dX10_findsTrail_165 : decode cX10_findsTrail 165 = .ok (.goto (-141), 3) := by decide +kernel
theorem dX10_findsTrail_168 : decode cX10_findsTrail 168 = .ok (.return_, 1) := by decide +kernel
theorem dX10_trail_0 : decode cX10_trail 0 = .ok (.aload_n 0, 1) := by decide +kernel
theorem dX10_trail_1 : decode cX10_trail 1 = .ok (.iload_n 1, 1) := by decide +kernel
theorem dX10_trail_2 : decode cX10_trail 2 = .ok (.invokevirtual 316, 3) := by decide +kernel
theorem dX10_trail_5 : decode cX10_trail 5 = .ok (.ifCond .eq 13, 3) := by decide +kernel
theorem dX10_trail_8 : decode cX10_trail 8 = .ok (.iload_n 2, 1) := by decide +kernel
theorem dX10_trail_9 : decode cX10_trail 9 = .ok (.i2l, 1) := by decide +kernel
theorem dX10_trail_10 : decode cX10_trail 10 = .ok (.lconst 0, 1) := by decide +kernel
theorem dX10_trail_11 : decode cX10_trail 11 = .ok (.lconst 1, 1) := by decide +kernel
theorem dX10_trail_12 : decode cX10_trail 12 = .ok (.invokestatic 118, 3) := by decide +kernel
theorem dX10_trail_15 : decode cX10_trail 15 = .ok (.ifCond .ne 5, 3) := by decide +kernel
theorem dX10_trail_18 : decode cX10_trail 18 = .ok (.iconst (-1), 1) := by decide +kernel
theorem dX10_trail_19 : decode cX10_trail 19 = .ok (.ireturn, 1) := by decide +kernel
theorem dX10_trail_20 : decode cX10_trail 20 = .ok (.aload_n 0, 1) := by decide +kernel
theorem dX10_trail_21 : decode cX10_trail 21 = .ok (.iload_n 1, 1) := by decide +kernel
theorem dX10_trail_22 : decode cX10_trail 22 = .ok (.invokevirtual 453, 3) := by decide +kernel
theorem dX10_trail_25 : decode cX10_trail 25 = .ok (.iload_n 2, 1) := by decide +kernel
theorem dX10_trail_26 : decode cX10_trail 26 = .ok (.ifCond .ne 10, 3) := by decide +kernel
theorem dX10_trail_29 : decode cX10_trail 29 = .ok (.aload_n 0, 1) := by decide +kernel
theorem dX10_trail_30 : decode cX10_trail 30 = .ok (.getfield 391, 3) := by decide +kernel
theorem dX10_trail_33 : decode cX10_trail 33 = .ok (.goto 7, 3) := by decide +kernel
theorem dX10_trail_36 : decode cX10_trail 36 = .ok (.aload_n 0, 1) := by decide +kernel
theorem dX10_trail_37 : decode cX10_trail 37 = .ok (.getfield 450, 3) := by decide +kernel
theorem dX10_trail_40 : decode cX10_trail 40 = .ok (.ireturn, 1) := by decide +kernel
theorem dX10_seed_0 : decode cX10_seed 0 = .ok (.iload_n 1, 1) := by decide +kernel
theorem dX10_seed_1 : decode cX10_seed 1 = .ok (.ifCond .ge 5, 3) := by decide +kernel
theorem dX10_seed_4 : decode cX10_seed 4 = .ok (.iconst (-1), 1) := by decide +kernel
theorem dX10_seed_5 : decode cX10_seed 5 = .ok (.ireturn, 1) := by decide +kernel
theorem dX10_seed_6 : decode cX10_seed 6 = .ok (.aload_n 0, 1) := by decide +kernel
theorem dX10_seed_7 : decode cX10_seed 7 = .ok (.getfield 456, 3) := by decide +kernel
theorem dX10_seed_10 : decode cX10_seed 10 = .ok (.istore_n 2, 1) := by decide +kernel
theorem dX10_seed_11 : decode cX10_seed 11 = .ok (.aload_n 0, 1) := by decide +kernel
theorem dX10_seed_12 : decode cX10_seed 12 = .ok (.iload_n 1, 1) := by decide +kernel
theorem dX10_seed_13 : decode cX10_seed 13 = .ok (.putfield 456, 3) := by decide +kernel
theorem dX10_seed_16 : decode cX10_seed 16 = .ok (.iload_n 2, 1) := by decide +kernel
theorem dX10_seed_17 : decode cX10_seed 17 = .ok (.ireturn, 1) := by decide +kernel
theorem dX10_draw_0 : decode cX10_draw 0 = .ok (.aload_n 0, 1) := by decide +kernel
theorem dX10_draw_1 : decode cX10_draw 1 = .ok (.aload_n 0, 1) := by decide +kernel
theorem dX10_draw_2 : decode cX10_draw 2 = .ok (.getfield 459, 3) := by decide +kernel
theorem dX10_draw_5 : decode cX10_draw 5 = .ok (.ldc2_w 463, 3) := by decide +kernel
theorem dX10_draw_8 : decode cX10_draw 8 = .ok (.lmul, 1) := by decide +kernel
theorem dX10_draw_9 : decode cX10_draw 9 = .ok (.ldc2_w 465, 3) := by decide +kernel
theorem dX10_draw_12 : decode cX10_draw 12 = .ok (.ladd, 1) := by decide +kernel
theorem dX10_draw_13 : decode cX10_draw 13 = .ok (.ldc2_w 467, 3) := by decide +kernel
theorem dX10_draw_16 : decode cX10_draw 16 = .ok (.lrem, 1) := by decide +kernel
theorem dX10_draw_17 : decode cX10_draw 17 = .ok (.putfield 459, 3) := by decide +kernel
theorem dX10_draw_20 : decode cX10_draw 20 = .ok (.aload_n 0, 1) := by decide +kernel
theorem dX10_draw_21 : decode cX10_draw 21 = .ok (.getfield 459, 3) := by decide +kernel
theorem dX10_draw_24 : decode cX10_draw 24 = .ok (.ldc2_w 469, 3) := by decide +kernel
theorem dX10_draw_27 : decode cX10_draw 27 = .ok (.ldiv, 1) := by decide +kernel
theorem dX10_draw_28 : decode cX10_draw 28 = .ok (.iload_n 1, 1) := by decide +kernel
theorem dX10_draw_29 : decode cX10_draw 29 = .ok (.i2l, 1) := by decide +kernel
theorem dX10_draw_30 : decode cX10_draw 30 = .ok (.lrem, 1) := by decide +kernel
theorem dX10_draw_31 : decode cX10_draw 31 = .ok (.l2i, 1) := by decide +kernel
theorem dX10_draw_32 : decode cX10_draw 32 = .ok (.ireturn, 1) := by decide +kernel
theorem dX10_lives_0 : decode cX10_lives 0 = .ok (.aload_n 0, 1) := by decide +kernel
theorem dX10_lives_1 : decode cX10_lives 1 = .ok (.invokevirtual 358, 3) := by decide +kernel
theorem dX10_lives_4 : decode cX10_lives 4 = .ok (.ifCond .eq 37, 3) := by decide +kernel
theorem dX10_lives_7 : decode cX10_lives 7 = .ok (.iload_n 1, 1) := by decide +kernel
theorem dX10_lives_8 : decode cX10_lives 8 = .ok (.i2l, 1) := by decide +kernel
theorem dX10_lives_9 : decode cX10_lives 9 = .ok (.lconst 1, 1) := by decide +kernel
theorem dX10_lives_10 : decode cX10_lives 10 = .ok (.ldc2_w 471, 3) := by decide +kernel
theorem dX10_lives_13 : decode cX10_lives 13 = .ok (.invokestatic 118, 3) := by decide +kernel
theorem dX10_lives_16 : decode cX10_lives 16 = .ok (.ifCond .eq 25, 3) := by decide +kernel
theorem dX10_lives_19 : decode cX10_lives 19 = .ok (.iload_n 2, 1) := by decide +kernel
theorem dX10_lives_20 : decode cX10_lives 20 = .ok (.i2l, 1) := by decide +kernel
theorem dX10_lives_21 : decode cX10_lives 21 = .ok (.lconst 1, 1) := by decide +kernel
theorem dX10_lives_22 : decode cX10_lives 22 = .ok (.ldc2_w 380, 3) := by decide +kernel
theorem dX10_lives_25 : decode cX10_lives 25 = .ok (.invokestatic 118, 3) := by decide +kernel
theorem dX10_lives_28 : decode cX10_lives 28 = .ok (.ifCond .eq 13, 3) := by decide +kernel
theorem dX10_lives_31 : decode cX10_lives 31 = .ok (.iload_n 3, 1) := by decide +kernel
theorem dX10_lives_32 : decode cX10_lives 32 = .ok (.i2l, 1) := by decide +kernel
theorem dX10_lives_33 : decode cX10_lives 33 = .ok (.lconst 0, 1) := by decide +kernel
theorem dX10_lives_34 : decode cX10_lives 34 = .ok (.lconst 1, 1) := by decide +kernel
theorem dX10_lives_35 : decode cX10_lives 35 = .ok (.invokestatic 118, 3) := by decide +kernel
theorem dX10_lives_38 : decode cX10_lives 38 = .ok (.ifCond .ne 5, 3) := by decide +kernel
theorem dX10_lives_41 : decode cX10_lives 41 = .ok (.iconst (-1), 1) := by decide +kernel
theorem dX10_lives_42 : decode cX10_lives 42 = .ok (.ireturn, 1) := by decide +kernel
theorem dX10_lives_43 : decode cX10_lives 43 = .ok (.aload_n 0, 1) := by decide +kernel
theorem dX10_lives_44 : decode cX10_lives 44 = .ok (.aload_n 0, 1) := by decide +kernel
theorem dX10_lives_45 : decode cX10_lives 45 = .ok (.getfield 456, 3) := by decide +kernel
theorem dX10_lives_48 : decode cX10_lives 48 = .ok (.i2l, 1) := by decide +kernel
theorem dX10_lives_49 : decode cX10_lives 49 = .ok (.putfield 459, 3) := by decide +kernel
theorem dX10_lives_52 : decode cX10_lives 52 = .ok (.iconst 0, 1) := by decide +kernel
theorem dX10_lives_53 : decode cX10_lives 53 = .ok (.istore 4, 2) := by decide +kernel
theorem dX10_lives_55 : decode cX10_lives 55 = .ok (.iconst 0, 1) := by decide +kernel
theorem dX10_lives_56 : decode cX10_lives 56 = .ok (.istore 5, 2) := by decide +kernel
theorem dX10_lives_58 : decode cX10_lives 58 = .ok (.iconst 0, 1) := by decide +kernel
theorem dX10_lives_59 : decode cX10_lives 59 = .ok (.istore 6, 2) := by decide +kernel
theorem dX10_lives_61 : decode cX10_lives 61 = .ok (.iload 6, 2) := by decide +kernel
theorem dX10_lives_63 : decode cX10_lives 63 = .ok (.bipush 94, 2) := by decide +kernel
theorem dX10_lives_65 : decode cX10_lives 65 = .ok (.if_icmp .ge 23, 3) := by decide +kernel
theorem dX10_lives_68 : decode cX10_lives 68 = .ok (.aload_n 0, 1) := by decide +kernel
theorem dX10_lives_69 : decode cX10_lives 69 = .ok (.getfield 66, 3) := by decide +kernel
theorem dX10_lives_72 : decode cX10_lives 72 = .ok (.iload 6, 2) := by decide +kernel
theorem dX10_lives_74 : decode cX10_lives 74 = .ok (.aload_n 0, 1) := by decide +kernel
theorem dX10_lives_75 : decode cX10_lives 75 = .ok (.getfield 39, 3) := by decide +kernel
theorem dX10_lives_78 : decode cX10_lives 78 = .ok (.iload 6, 2) := by decide +kernel
theorem dX10_lives_80 : decode cX10_lives 80 = .ok (.iaload, 1) := by decide +kernel
theorem dX10_lives_81 : decode cX10_lives 81 = .ok (.iastore, 1) := by decide +kernel
theorem dX10_lives_82 : decode cX10_lives 82 = .ok (.iinc 6 1, 3) := by decide +kernel
theorem dX10_lives_85 : decode cX10_lives 85 = .ok (.goto (-24), 3) := by decide +kernel
theorem dX10_lives_88 : decode cX10_lives 88 = .ok (.iconst 0, 1) := by decide +kernel
theorem dX10_lives_89 : decode cX10_lives 89 = .ok (.istore 6, 2) := by decide +kernel
theorem dX10_lives_91 : decode cX10_lives 91 = .ok (.iload 6, 2) := by decide +kernel
theorem dX10_lives_93 : decode cX10_lives 93 = .ok (.iload_n 1, 1) := by decide +kernel
theorem dX10_lives_94 : decode cX10_lives 94 = .ok (.if_icmp .ge 133, 3) := by decide +kernel
theorem dX10_lives_97 : decode cX10_lives 97 = .ok (.iconst 0, 1) := by decide +kernel
theorem dX10_lives_98 : decode cX10_lives 98 = .ok (.istore 7, 2) := by decide +kernel
theorem dX10_lives_100 : decode cX10_lives 100 = .ok (.iload 7, 2) := by decide +kernel
theorem dX10_lives_102 : decode cX10_lives 102 = .ok (.iload_n 2, 1) := by decide +kernel
theorem dX10_lives_103 : decode cX10_lives 103 = .ok (.if_icmp .ge 88, 3) := by decide +kernel
theorem dX10_lives_106 : decode cX10_lives 106 = .ok (.iconst 0, 1) := by decide +kernel
theorem dX10_lives_107 : decode cX10_lives 107 = .ok (.istore 8, 2) := by decide +kernel
theorem dX10_lives_109 : decode cX10_lives 109 = .ok (.iload 8, 2) := by decide +kernel
theorem dX10_lives_111 : decode cX10_lives 111 = .ok (.aload_n 0, 1) := by decide +kernel
theorem dX10_lives_112 : decode cX10_lives 112 = .ok (.getfield 39, 3) := by decide +kernel
theorem dX10_lives_115 : decode cX10_lives 115 = .ok (.iconst 4, 1) := by decide +kernel
theorem dX10_lives_116 : decode cX10_lives 116 = .ok (.iaload, 1) := by decide +kernel
theorem dX10_lives_117 : decode cX10_lives 117 = .ok (.if_icmp .ge 59, 3) := by decide +kernel
theorem dX10_lives_120 : decode cX10_lives 120 = .ok (.aload_n 0, 1) := by decide +kernel
theorem dX10_lives_121 : decode cX10_lives 121 = .ok (.aload_n 0, 1) := by decide +kernel
theorem dX10_lives_122 : decode cX10_lives 122 = .ok (.getfield 39, 3) := by decide +kernel
theorem dX10_lives_125 : decode cX10_lives 125 = .ok (.iconst 2, 1) := by decide +kernel
theorem dX10_lives_126 : decode cX10_lives 126 = .ok (.iaload, 1) := by decide +kernel
theorem dX10_lives_127 : decode cX10_lives 127 = .ok (.iconst 1, 1) := by decide +kernel
theorem dX10_lives_128 : decode cX10_lives 128 = .ok (.iadd, 1) := by decide +kernel
theorem dX10_lives_129 : decode cX10_lives 129 = .ok (.invokevirtual 473, 3) := by decide +kernel
theorem dX10_lives_132 : decode cX10_lives 132 = .ok (.istore 9, 2) := by decide +kernel
theorem dX10_lives_134 : decode cX10_lives 134 = .ok (.iload 9, 2) := by decide +kernel
theorem dX10_lives_136 : decode cX10_lives 136 = .ok (.aload_n 0, 1) := by decide +kernel
theorem dX10_lives_137 : decode cX10_lives 137 = .ok (.getfield 39, 3) := by decide +kernel
theorem dX10_lives_140 : decode cX10_lives 140 = .ok (.iconst 2, 1) := by decide +kernel
theorem dX10_lives_141 : decode cX10_lives 141 = .ok (.iaload, 1) := by decide +kernel
theorem dX10_lives_142 : decode cX10_lives 142 = .ok (.if_icmp .eq 28, 3) := by decide +kernel
theorem dX10_lives_145 : decode cX10_lives 145 = .ok (.aload_n 0, 1) := by decide +kernel
theorem dX10_lives_146 : decode cX10_lives 146 = .ok (.iload 8, 2) := by decide +kernel
theorem dX10_lives_148 : decode cX10_lives 148 = .ok (.iload 9, 2) := by decide +kernel
theorem dX10_lives_150 : decode cX10_lives 150 = .ok (.invokevirtual 339, 3) := by decide +kernel
theorem dX10_lives_153 : decode cX10_lives 153 = .ok (.ifCond .ne 6, 3) := by decide +kernel
theorem dX10_lives_156 : decode cX10_lives 156 = .ok (.goto 14, 3) := by decide +kernel
theorem dX10_lives_159 : decode cX10_lives 159 = .ok (.aload_n 0, 1) := by decide +kernel
theorem dX10_lives_160 : decode cX10_lives 160 = .ok (.iload 8, 2) := by decide +kernel
theorem dX10_lives_162 : decode cX10_lives 162 = .ok (.iload 9, 2) := by decide +kernel
theorem dX10_lives_164 : decode cX10_lives 164 = .ok (.invokevirtual 345, 3) := by decide +kernel
theorem dX10_lives_167 : decode cX10_lives 167 = .ok (.iinc 4 1, 3) := by decide +kernel
theorem dX10_lives_170 : decode cX10_lives 170 = .ok (.iinc 8 1, 3) := by decide +kernel
theorem dX10_lives_173 : decode cX10_lives 173 = .ok (.goto (-64), 3) := by decide +kernel
theorem dX10_lives_176 : decode cX10_lives 176 = .ok (.iload 5, 2) := by decide +kernel
theorem dX10_lives_178 : decode cX10_lives 178 = .ok (.aload_n 0, 1) := by decide +kernel
theorem dX10_lives_179 : decode cX10_lives 179 = .ok (.invokevirtual 361, 3) := by decide +kernel
theorem dX10_lives_182 : decode cX10_lives 182 = .ok (.iadd, 1) := by decide +kernel
theorem dX10_lives_183 : decode cX10_lives 183 = .ok (.istore 5, 2) := by decide +kernel
theorem dX10_lives_185 : decode cX10_lives 185 = .ok (.iinc 7 1, 3) := by decide +kernel
theorem dX10_lives_188 : decode cX10_lives 188 = .ok (.goto (-88), 3) := by decide +kernel
theorem dX10_lives_191 : decode cX10_lives 191 = .ok (.iconst 0, 1) := by decide +kernel
theorem dX10_lives_192 : decode cX10_lives 192 = .ok (.istore 7, 2) := by decide +kernel
theorem dX10_lives_194 : decode cX10_lives 194 = .ok (.iload 7, 2) := by decide +kernel
theorem dX10_lives_196 : decode cX10_lives 196 = .ok (.bipush 94, 2) := by decide +kernel
theorem dX10_lives_198 : decode cX10_lives 198 = .ok (.if_icmp .ge 23, 3) := by decide +kernel
theorem dX10_lives_201 : decode cX10_lives 201 = .ok (.aload_n 0, 1) := by decide +kernel
theorem dX10_lives_202 : decode cX10_lives 202 = .ok (.getfield 39, 3) := by decide +kernel
theorem dX10_lives_205 : decode cX10_lives 205 = .ok (.iload 7, 2) := by decide +kernel
theorem dX10_lives_207 : decode cX10_lives 207 = .ok (.aload_n 0, 1) := by decide +kernel
theorem dX10_lives_208 : decode cX10_lives 208 = .ok (.getfield 66, 3) := by decide +kernel
theorem dX10_lives_211 : decode cX10_lives 211 = .ok (.iload 7, 2) := by decide +kernel
theorem dX10_lives_213 : decode cX10_lives 213 = .ok (.iaload, 1) := by decide +kernel
theorem dX10_lives_214 : decode cX10_lives 214 = .ok (.iastore, 1) := by decide +kernel
theorem dX10_lives_215 : decode cX10_lives 215 = .ok (.iinc 7 1, 3) := by decide +kernel
theorem dX10_lives_218 : decode cX10_lives 218 = .ok (.goto (-24), 3) := by decide +kernel
theorem dX10_lives_221 : decode cX10_lives 221 = .ok (.iinc 6 1, 3) := by decide +kernel
theorem dX10_lives_224 : decode cX10_lives 224 = .ok (.goto (-133), 3) := by decide +kernel
theorem dX10_lives_227 : decode cX10_lives 227 = .ok (.iload_n 3, 1) := by decide +kernel
theorem dX10_lives_228 : decode cX10_lives 228 = .ok (.ifCond .ne 8, 3) := by decide +kernel
theorem dX10_lives_231 : decode cX10_lives 231 = .ok (.iload 4, 2) := by decide +kernel
theorem dX10_lives_233 : decode cX10_lives 233 = .ok (.goto 5, 3) := by decide +kernel
theorem dX10_lives_236 : decode cX10_lives 236 = .ok (.iload 5, 2) := by decide +kernel
theorem dX10_lives_238 : decode cX10_lives 238 = .ok (.ireturn, 1) := by decide +kernel
theorem dX10_count_0 : decode cX10_count 0 = .ok (.iconst 0, 1) := by decide +kernel
theorem dX10_count_1 : decode cX10_count 1 = .ok (.istore_n 2, 1) := by decide +kernel
theorem dX10_count_2 : decode cX10_count 2 = .ok (.iload_n 1, 1) := by decide +kernel
theorem dX10_count_3 : decode cX10_count 3 = .ok (.tableswitch 191 0 13 #[69, 69, 69, 69, 69, 69, 76, 81, 89, 102, 131, 176, 181, 186], 69) := by decide +kernel
theorem dX10_count_72 : decode cX10_count 72 = .ok (.aload_n 0, 1) := by decide +kernel
theorem dX10_count_73 : decode cX10_count 73 = .ok (.getfield 39, 3) := by decide +kernel
theorem dX10_count_76 : decode cX10_count 76 = .ok (.iload_n 1, 1) := by decide +kernel
theorem dX10_count_77 : decode cX10_count 77 = .ok (.iaload, 1) := by decide +kernel
theorem dX10_count_78 : decode cX10_count 78 = .ok (.ireturn, 1) := by decide +kernel
theorem dX10_count_79 : decode cX10_count 79 = .ok (.aload_n 0, 1) := by decide +kernel
theorem dX10_count_80 : decode cX10_count 80 = .ok (.getfield 273, 3) := by decide +kernel
theorem dX10_count_83 : decode cX10_count 83 = .ok (.ireturn, 1) := by decide +kernel
theorem dX10_count_84 : decode cX10_count 84 = .ok (.aload_n 0, 1) := by decide +kernel
theorem dX10_count_85 : decode cX10_count 85 = .ok (.getfield 39, 3) := by decide +kernel
theorem dX10_count_88 : decode cX10_count 88 = .ok (.bipush 6, 2) := by decide +kernel
theorem dX10_count_90 : decode cX10_count 90 = .ok (.iaload, 1) := by decide +kernel
theorem dX10_count_91 : decode cX10_count 91 = .ok (.ireturn, 1) := by decide +kernel
theorem dX10_count_92 : decode cX10_count 92 = .ok (.aload_n 0, 1) := by decide +kernel
theorem dX10_count_93 : decode cX10_count 93 = .ok (.invokevirtual 348, 3) := by decide +kernel
theorem dX10_count_96 : decode cX10_count 96 = .ok (.ifCond .eq 7, 3) := by decide +kernel
theorem dX10_count_99 : decode cX10_count 99 = .ok (.iconst 1, 1) := by decide +kernel
theorem dX10_count_100 : decode cX10_count 100 = .ok (.goto 4, 3) := by decide +kernel
theorem dX10_count_103 : decode cX10_count 103 = .ok (.iconst 0, 1) := by decide +kernel
theorem dX10_count_104 : decode cX10_count 104 = .ok (.ireturn, 1) := by decide +kernel
theorem dX10_count_105 : decode cX10_count 105 = .ok (.iconst 0, 1) := by decide +kernel
theorem dX10_count_106 : decode cX10_count 106 = .ok (.istore_n 3, 1) := by decide +kernel
theorem dX10_count_107 : decode cX10_count 107 = .ok (.iload_n 3, 1) := by decide +kernel
theorem dX10_count_108 : decode cX10_count 108 = .ok (.aload_n 0, 1) := by decide +kernel
theorem dX10_count_109 : decode cX10_count 109 = .ok (.getfield 39, 3) := by decide +kernel
theorem dX10_count_112 : decode cX10_count 112 = .ok (.iconst 4, 1) := by decide +kernel
theorem dX10_count_113 : decode cX10_count 113 = .ok (.iaload, 1) := by decide +kernel
theorem dX10_count_114 : decode cX10_count 114 = .ok (.if_icmp .ge 18, 3) := by decide +kernel
theorem dX10_count_117 : decode cX10_count 117 = .ok (.iload_n 2, 1) := by decide +kernel
theorem dX10_count_118 : decode cX10_count 118 = .ok (.aload_n 0, 1) := by decide +kernel
theorem dX10_count_119 : decode cX10_count 119 = .ok (.iload_n 3, 1) := by decide +kernel
theorem dX10_count_120 : decode cX10_count 120 = .ok (.iconst 2, 1) := by decide +kernel
theorem dX10_count_121 : decode cX10_count 121 = .ok (.invokevirtual 307, 3) := by decide +kernel
theorem dX10_count_124 : decode cX10_count 124 = .ok (.iadd, 1) := by decide +kernel
theorem dX10_count_125 : decode cX10_count 125 = .ok (.istore_n 2, 1) := by decide +kernel
theorem dX10_count_126 : decode cX10_count 126 = .ok (.iinc 3 1, 3) := by decide +kernel
theorem dX10_count_129 : decode cX10_count 129 = .ok (.goto (-22), 3) := by decide +kernel
theorem dX10_count_132 : decode cX10_count 132 = .ok (.iload_n 2, 1) := by decide +kernel
theorem dX10_count_133 : decode cX10_count 133 = .ok (.ireturn, 1) := by decide +kernel
theorem dX10_count_134 : decode cX10_count 134 = .ok (.iconst 0, 1) := by decide +kernel
theorem dX10_count_135 : decode cX10_count 135 = .ok (.istore_n 3, 1) := by decide +kernel
theorem dX10_count_136 : decode cX10_count 136 = .ok (.iload_n 3, 1) := by decide +kernel
theorem dX10_count_137 : decode cX10_count 137 = .ok (.aload_n 0, 1) := by decide +kernel
theorem dX10_count_138 : decode cX10_count 138 = .ok (.getfield 39, 3) := by decide +kernel
theorem dX10_count_141 : decode cX10_count 141 = .ok (.iconst 4, 1) := by decide +kernel
theorem dX10_count_142 : decode cX10_count 142 = .ok (.iaload, 1) := by decide +kernel
theorem dX10_count_143 : decode cX10_count 143 = .ok (.if_icmp .ge 34, 3) := by decide +kernel
theorem dX10_count_146 : decode cX10_count 146 = .ok (.iload_n 2, 1) := by decide +kernel
theorem dX10_count_147 : decode cX10_count 147 = .ok (.aload_n 0, 1) := by decide +kernel
theorem dX10_count_148 : decode cX10_count 148 = .ok (.iload_n 3, 1) := by decide +kernel
theorem dX10_count_149 : decode cX10_count 149 = .ok (.iconst 0, 1) := by decide +kernel
theorem dX10_count_150 : decode cX10_count 150 = .ok (.invokevirtual 307, 3) := by decide +kernel
theorem dX10_count_153 : decode cX10_count 153 = .ok (.aload_n 0, 1) := by decide +kernel
theorem dX10_count_154 : decode cX10_count 154 = .ok (.iload_n 3, 1) := by decide +kernel
theorem dX10_count_155 : decode cX10_count 155 = .ok (.iconst 1, 1) := by decide +kernel
theorem dX10_count_156 : decode cX10_count 156 = .ok (.invokevirtual 307, 3) := by decide +kernel
theorem dX10_count_159 : decode cX10_count 159 = .ok (.if_icmp .ne 9, 3) := by decide +kernel
theorem dX10_count_162 : decode cX10_count 162 = .ok (.iconst 1, 1) := by decide +kernel
theorem dX10_count_163 : decode cX10_count 163 = .ok (.iload_n 3, 1) := by decide +kernel
theorem dX10_count_164 : decode cX10_count 164 = .ok (.ishl, 1) := by decide +kernel
theorem dX10_count_165 : decode cX10_count 165 = .ok (.goto 4, 3) := by decide +kernel
theorem dX10_count_168 : decode cX10_count 168 = .ok (.iconst 0, 1) := by decide +kernel
theorem dX10_count_169 : decode cX10_count 169 = .ok (.ior, 1) := by decide +kernel
theorem dX10_count_170 : decode cX10_count 170 = .ok (.istore_n 2, 1) := by decide +kernel
theorem dX10_count_171 : decode cX10_count 171 = .ok (.iinc 3 1, 3) := by decide +kernel
theorem dX10_count_174 : decode cX10_count 174 = .ok (.goto (-38), 3) := by decide +kernel
theorem dX10_count_177 : decode cX10_count 177 = .ok (.iload_n 2, 1) := by decide +kernel
theorem dX10_count_178 : decode cX10_count 178 = .ok (.ireturn, 1) := by decide +kernel
theorem dX10_count_179 : decode cX10_count 179 = .ok (.aload_n 0, 1) := by decide +kernel
theorem dX10_count_180 : decode cX10_count 180 = .ok (.getfield 279, 3) := by decide +kernel
theorem dX10_count_183 : decode cX10_count 183 = .ok (.ireturn, 1) := by decide +kernel
theorem dX10_count_184 : decode cX10_count 184 = .ok (.aload_n 0, 1) := by decide +kernel
theorem dX10_count_185 : decode cX10_count 185 = .ok (.getfield 456, 3) := by decide +kernel
theorem dX10_count_188 : decode cX10_count 188 = .ok (.ireturn, 1) := by decide +kernel
theorem dX10_count_189 : decode cX10_count 189 = .ok (.aload_n 0, 1) := by decide +kernel
theorem dX10_count_190 : decode cX10_count 190 = .ok (.getfield 79, 3) := by decide +kernel
theorem dX10_count_193 : decode cX10_count 193 = .ok (.ireturn, 1) := by decide +kernel
theorem dX10_count_194 : decode cX10_count 194 = .ok (.iconst (-1), 1) := by decide +kernel
theorem dX10_count_195 : decode cX10_count 195 = .ok (.ireturn, 1) := by decide +kernel
theorem dX10_image_0 : decode cX10_image 0 = .ok (.iload_n 1, 1) := by decide +kernel
theorem dX10_image_1 : decode cX10_image 1 = .ok (.i2l, 1) := by decide +kernel
theorem dX10_image_2 : decode cX10_image 2 = .ok (.lconst 0, 1) := by decide +kernel
theorem dX10_image_3 : decode cX10_image 3 = .ok (.ldc2_w 476, 3) := by decide +kernel
theorem dX10_image_6 : decode cX10_image 6 = .ok (.invokestatic 118, 3) := by decide +kernel
theorem dX10_image_9 : decode cX10_image 9 = .ok (.ifCond .ne 5, 3) := by decide +kernel
theorem dX10_image_12 : decode cX10_image 12 = .ok (.iconst (-1), 1) := by decide +kernel
theorem dX10_image_13 : decode cX10_image 13 = .ok (.ireturn, 1) := by decide +kernel
theorem dX10_image_14 : decode cX10_image 14 = .ok (.aload_n 0, 1) := by decide +kernel
theorem dX10_image_15 : decode cX10_image 15 = .ok (.getfield 75, 3) := by decide +kernel
theorem dX10_image_18 : decode cX10_image 18 = .ok (.iload_n 1, 1) := by decide +kernel
theorem dX10_image_19 : decode cX10_image 19 = .ok (.iconst 1, 1) := by decide +kernel
theorem dX10_image_20 : decode cX10_image 20 = .ok (.bastore, 1) := by decide +kernel
theorem dX10_image_21 : decode cX10_image 21 = .ok (.aload_n 0, 1) := by decide +kernel
theorem dX10_image_22 : decode cX10_image 22 = .ok (.getfield 72, 3) := by decide +kernel
theorem dX10_image_25 : decode cX10_image 25 = .ok (.iload_n 1, 1) := by decide +kernel
theorem dX10_image_26 : decode cX10_image 26 = .ok (.aload_n 0, 1) := by decide +kernel
theorem dX10_image_27 : decode cX10_image 27 = .ok (.getfield 456, 3) := by decide +kernel
theorem dX10_image_30 : decode cX10_image 30 = .ok (.iastore, 1) := by decide +kernel
theorem dX10_image_31 : decode cX10_image 31 = .ok (.iconst 0, 1) := by decide +kernel
theorem dX10_image_32 : decode cX10_image 32 = .ok (.istore_n 2, 1) := by decide +kernel
theorem dX10_image_33 : decode cX10_image 33 = .ok (.iload_n 2, 1) := by decide +kernel
theorem dX10_image_34 : decode cX10_image 34 = .ok (.sipush 160, 3) := by decide +kernel
theorem dX10_image_37 : decode cX10_image 37 = .ok (.if_icmp .ge 27, 3) := by decide +kernel
theorem dX10_image_40 : decode cX10_image 40 = .ok (.aload_n 0, 1) := by decide +kernel
theorem dX10_image_41 : decode cX10_image 41 = .ok (.getfield 69, 3) := by decide +kernel
theorem dX10_image_44 : decode cX10_image 44 = .ok (.sipush 160, 3) := by decide +kernel
theorem dX10_image_47 : decode cX10_image 47 = .ok (.iload_n 1, 1) := by decide +kernel
theorem dX10_image_48 : decode cX10_image 48 = .ok (.imul, 1) := by decide +kernel
theorem dX10_image_49 : decode cX10_image 49 = .ok (.iload_n 2, 1) := by decide +kernel
theorem dX10_image_50 : decode cX10_image 50 = .ok (.iadd, 1) := by decide +kernel
theorem dX10_image_51 : decode cX10_image 51 = .ok (.aload_n 0, 1) := by decide +kernel
theorem dX10_image_52 : decode cX10_image 52 = .ok (.getfield 39, 3) := by decide +kernel
theorem dX10_image_55 : decode cX10_image 55 = .ok (.iload_n 2, 1) := by decide +kernel
theorem dX10_image_56 : decode cX10_image 56 = .ok (.iaload, 1) := by decide +kernel
theorem dX10_image_57 : decode cX10_image 57 = .ok (.iastore, 1) := by decide +kernel
theorem dX10_image_58 : decode cX10_image 58 = .ok (.iinc 2 1, 3) := by decide +kernel
theorem dX10_image_61 : decode cX10_image 61 = .ok (.goto (-28), 3) := by decide +kernel
theorem dX10_image_64 : decode cX10_image 64 = .ok (.aload_n 0, 1) := by decide +kernel
theorem dX10_image_65 : decode cX10_image 65 = .ok (.getfield 39, 3) := by decide +kernel
theorem dX10_image_68 : decode cX10_image 68 = .ok (.bipush 6, 2) := by decide +kernel
theorem dX10_image_70 : decode cX10_image 70 = .ok (.iaload, 1) := by decide +kernel
theorem dX10_image_71 : decode cX10_image 71 = .ok (.ireturn, 1) := by decide +kernel
theorem dX10_back_0 : decode cX10_back 0 = .ok (.iload_n 1, 1) := by decide +kernel
theorem dX10_back_1 : decode cX10_back 1 = .ok (.i2l, 1) := by decide +kernel
theorem dX10_back_2 : decode cX10_back 2 = .ok (.lconst 0, 1) := by decide +kernel
theorem dX10_back_3 : decode cX10_back 3 = .ok (.ldc2_w 476, 3) := by decide +kernel
theorem dX10_back_6 : decode cX10_back 6 = .ok (.invokestatic 118, 3) := by decide +kernel
theorem dX10_back_9 : decode cX10_back 9 = .ok (.ifCond .eq 12, 3) := by decide +kernel
theorem dX10_back_12 : decode cX10_back 12 = .ok (.aload_n 0, 1) := by decide +kernel
theorem dX10_back_13 : decode cX10_back 13 = .ok (.getfield 75, 3) := by decide +kernel
theorem dX10_back_16 : decode cX10_back 16 = .ok (.iload_n 1, 1) := by decide +kernel
theorem dX10_back_17 : decode cX10_back 17 = .ok (.baload, 1) := by decide +kernel
theorem dX10_back_18 : decode cX10_back 18 = .ok (.ifCond .ne 5, 3) := by decide +kernel
theorem dX10_back_21 : decode cX10_back 21 = .ok (.iconst (-1), 1) := by decide +kernel
theorem dX10_back_22 : decode cX10_back 22 = .ok (.ireturn, 1) := by decide +kernel
theorem dX10_back_23 : decode cX10_back 23 = .ok (.aload_n 0, 1) := by decide +kernel
theorem dX10_back_24 : decode cX10_back 24 = .ok (.aload_n 0, 1) := by decide +kernel
theorem dX10_back_25 : decode cX10_back 25 = .ok (.getfield 72, 3) := by decide +kernel
theorem dX10_back_28 : decode cX10_back 28 = .ok (.iload_n 1, 1) := by decide +kernel
theorem dX10_back_29 : decode cX10_back 29 = .ok (.iaload, 1) := by decide +kernel
theorem dX10_back_30 : decode cX10_back 30 = .ok (.putfield 456, 3) := by decide +kernel
theorem dX10_back_33 : decode cX10_back 33 = .ok (.aload_n 0, 1) := by decide +kernel
theorem dX10_back_34 : decode cX10_back 34 = .ok (.iconst 0, 1) := by decide +kernel
theorem dX10_back_35 : decode cX10_back 35 = .ok (.putfield 279, 3) := by decide +kernel
theorem dX10_back_38 : decode cX10_back 38 = .ok (.iconst 0, 1) := by decide +kernel
theorem dX10_back_39 : decode cX10_back 39 = .ok (.istore_n 2, 1) := by decide +kernel
theorem dX10_back_40 : decode cX10_back 40 = .ok (.iload_n 2, 1) := by decide +kernel
theorem dX10_back_41 : decode cX10_back 41 = .ok (.sipush 160, 3) := by decide +kernel
theorem dX10_back_44 : decode cX10_back 44 = .ok (.if_icmp .ge 27, 3) := by decide +kernel
theorem dX10_back_47 : decode cX10_back 47 = .ok (.aload_n 0, 1) := by decide +kernel
theorem dX10_back_48 : decode cX10_back 48 = .ok (.getfield 39, 3) := by decide +kernel
theorem dX10_back_51 : decode cX10_back 51 = .ok (.iload_n 2, 1) := by decide +kernel
theorem dX10_back_52 : decode cX10_back 52 = .ok (.aload_n 0, 1) := by decide +kernel
theorem dX10_back_53 : decode cX10_back 53 = .ok (.getfield 69, 3) := by decide +kernel
theorem dX10_back_56 : decode cX10_back 56 = .ok (.sipush 160, 3) := by decide +kernel
theorem dX10_back_59 : decode cX10_back 59 = .ok (.iload_n 1, 1) := by decide +kernel
theorem dX10_back_60 : decode cX10_back 60 = .ok (.imul, 1) := by decide +kernel
theorem dX10_back_61 : decode cX10_back 61 = .ok (.iload_n 2, 1) := by decide +kernel
theorem dX10_back_62 : decode cX10_back 62 = .ok (.iadd, 1) := by decide +kernel
theorem dX10_back_63 : decode cX10_back 63 = .ok (.iaload, 1) := by decide +kernel
theorem dX10_back_64 : decode cX10_back 64 = .ok (.iastore, 1) := by decide +kernel
theorem dX10_back_65 : decode cX10_back 65 = .ok (.iinc 2 1, 3) := by decide +kernel
theorem dX10_back_68 : decode cX10_back 68 = .ok (.goto (-28), 3) := by decide +kernel
theorem dX10_back_71 : decode cX10_back 71 = .ok (.aload_n 0, 1) := by decide +kernel
theorem dX10_back_72 : decode cX10_back 72 = .ok (.getfield 39, 3) := by decide +kernel
theorem dX10_back_75 : decode cX10_back 75 = .ok (.bipush 6, 2) := by decide +kernel
theorem dX10_back_77 : decode cX10_back 77 = .ok (.iaload, 1) := by decide +kernel
theorem dX10_back_78 : decode cX10_back 78 = .ok (.ireturn, 1) := by decide +kernel
