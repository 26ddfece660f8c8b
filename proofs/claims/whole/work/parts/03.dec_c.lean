theorem dX10_init_0 : decode cX10_init 0 = .ok (.aload_n 0, 1) := by decide +kernel
theorem dX10_init_1 : decode cX10_init 1 = .ok (.invokespecial 1, 3) := by decide +kernel
theorem dX10_init_4 : decode cX10_init 4 = .ok (.aload_n 0, 1) := by decide +kernel
theorem dX10_init_5 : decode cX10_init 5 = .ok (.bipush 6, 2) := by decide +kernel
theorem dX10_init_7 : decode cX10_init 7 = .ok (.newarray .int, 2) := by decide +kernel
theorem dX10_init_9 : decode cX10_init 9 = .ok (.putfield 7, 3) := by decide +kernel
theorem dX10_init_12 : decode cX10_init 12 = .ok (.aload_n 0, 1) := by decide +kernel
theorem dX10_init_13 : decode cX10_init 13 = .ok (.bipush 6, 2) := by decide +kernel
theorem dX10_init_15 : decode cX10_init 15 = .ok (.newarray .int, 2) := by decide +kernel
theorem dX10_init_17 : decode cX10_init 17 = .ok (.putfield 13, 3) := by decide +kernel
theorem dX10_init_20 : decode cX10_init 20 = .ok (.aload_n 0, 1) := by decide +kernel
theorem dX10_init_21 : decode cX10_init 21 = .ok (.bipush 6, 2) := by decide +kernel
theorem dX10_init_23 : decode cX10_init 23 = .ok (.newarray .int, 2) := by decide +kernel
theorem dX10_init_25 : decode cX10_init 25 = .ok (.putfield 16, 3) := by decide +kernel
theorem dX10_init_28 : decode cX10_init 28 = .ok (.aload_n 0, 1) := by decide +kernel
theorem dX10_init_29 : decode cX10_init 29 = .ok (.bipush 8, 2) := by decide +kernel
theorem dX10_init_31 : decode cX10_init 31 = .ok (.newarray .int, 2) := by decide +kernel
theorem dX10_init_33 : decode cX10_init 33 = .ok (.putfield 19, 3) := by decide +kernel
theorem dX10_init_36 : decode cX10_init 36 = .ok (.aload_n 0, 1) := by decide +kernel
theorem dX10_init_37 : decode cX10_init 37 = .ok (.bipush 19, 2) := by decide +kernel
theorem dX10_init_39 : decode cX10_init 39 = .ok (.newarray .int, 2) := by decide +kernel
theorem dX10_init_41 : decode cX10_init 41 = .ok (.putfield 22, 3) := by decide +kernel
theorem dX10_init_44 : decode cX10_init 44 = .ok (.aload_n 0, 1) := by decide +kernel
theorem dX10_init_45 : decode cX10_init 45 = .ok (.sipush 220, 3) := by decide +kernel
theorem dX10_init_48 : decode cX10_init 48 = .ok (.newarray .int, 2) := by decide +kernel
theorem dX10_init_50 : decode cX10_init 50 = .ok (.putfield 25, 3) := by decide +kernel
theorem dX10_init_53 : decode cX10_init 53 = .ok (.aload_n 0, 1) := by decide +kernel
theorem dX10_init_54 : decode cX10_init 54 = .ok (.iconst (-1), 1) := by decide +kernel
theorem dX10_init_55 : decode cX10_init 55 = .ok (.putfield 28, 3) := by decide +kernel
theorem dX10_init_58 : decode cX10_init 58 = .ok (.aload_n 0, 1) := by decide +kernel
theorem dX10_init_59 : decode cX10_init 59 = .ok (.iconst 4, 1) := by decide +kernel
theorem dX10_init_60 : decode cX10_init 60 = .ok (.newarray .int, 2) := by decide +kernel
theorem dX10_init_62 : decode cX10_init 62 = .ok (.putfield 32, 3) := by decide +kernel
theorem dX10_init_65 : decode cX10_init 65 = .ok (.aload_n 0, 1) := by decide +kernel
theorem dX10_init_66 : decode cX10_init 66 = .ok (.bipush 6, 2) := by decide +kernel
theorem dX10_init_68 : decode cX10_init 68 = .ok (.newarray .int, 2) := by decide +kernel
theorem dX10_init_70 : decode cX10_init 70 = .ok (.putfield 35, 3) := by decide +kernel
theorem dX10_init_73 : decode cX10_init 73 = .ok (.aload_n 0, 1) := by decide +kernel
theorem dX10_init_74 : decode cX10_init 74 = .ok (.bipush 6, 2) := by decide +kernel
theorem dX10_init_76 : decode cX10_init 76 = .ok (.newarray .int, 2) := by decide +kernel
theorem dX10_init_78 : decode cX10_init 78 = .ok (.putfield 38, 3) := by decide +kernel
theorem dX10_init_81 : decode cX10_init 81 = .ok (.aload_n 0, 1) := by decide +kernel
theorem dX10_init_82 : decode cX10_init 82 = .ok (.bipush 6, 2) := by decide +kernel
theorem dX10_init_84 : decode cX10_init 84 = .ok (.newarray .int, 2) := by decide +kernel
theorem dX10_init_86 : decode cX10_init 86 = .ok (.putfield 41, 3) := by decide +kernel
theorem dX10_init_89 : decode cX10_init 89 = .ok (.aload_n 0, 1) := by decide +kernel
theorem dX10_init_90 : decode cX10_init 90 = .ok (.bipush 6, 2) := by decide +kernel
theorem dX10_init_92 : decode cX10_init 92 = .ok (.newarray .int, 2) := by decide +kernel
theorem dX10_init_94 : decode cX10_init 94 = .ok (.putfield 44, 3) := by decide +kernel
theorem dX10_init_97 : decode cX10_init 97 = .ok (.aload_n 0, 1) := by decide +kernel
theorem dX10_init_98 : decode cX10_init 98 = .ok (.bipush 8, 2) := by decide +kernel
theorem dX10_init_100 : decode cX10_init 100 = .ok (.newarray .int, 2) := by decide +kernel
theorem dX10_init_102 : decode cX10_init 102 = .ok (.putfield 47, 3) := by decide +kernel
theorem dX10_init_105 : decode cX10_init 105 = .ok (.aload_n 0, 1) := by decide +kernel
theorem dX10_init_106 : decode cX10_init 106 = .ok (.sipush 380, 3) := by decide +kernel
theorem dX10_init_109 : decode cX10_init 109 = .ok (.newarray .int, 2) := by decide +kernel
theorem dX10_init_111 : decode cX10_init 111 = .ok (.putfield 50, 3) := by decide +kernel
theorem dX10_init_114 : decode cX10_init 114 = .ok (.aload_n 0, 1) := by decide +kernel
theorem dX10_init_115 : decode cX10_init 115 = .ok (.bipush 6, 2) := by decide +kernel
theorem dX10_init_117 : decode cX10_init 117 = .ok (.newarray .int, 2) := by decide +kernel
theorem dX10_init_119 : decode cX10_init 119 = .ok (.putfield 53, 3) := by decide +kernel
theorem dX10_init_122 : decode cX10_init 122 = .ok (.aload_n 0, 1) := by decide +kernel
theorem dX10_init_123 : decode cX10_init 123 = .ok (.bipush 6, 2) := by decide +kernel
theorem dX10_init_125 : decode cX10_init 125 = .ok (.newarray .int, 2) := by decide +kernel
theorem dX10_init_127 : decode cX10_init 127 = .ok (.putfield 56, 3) := by decide +kernel
theorem dX10_init_130 : decode cX10_init 130 = .ok (.aload_n 0, 1) := by decide +kernel
theorem dX10_init_131 : decode cX10_init 131 = .ok (.bipush 6, 2) := by decide +kernel
theorem dX10_init_133 : decode cX10_init 133 = .ok (.newarray .int, 2) := by decide +kernel
theorem dX10_init_135 : decode cX10_init 135 = .ok (.putfield 59, 3) := by decide +kernel
theorem dX10_init_138 : decode cX10_init 138 = .ok (.aload_n 0, 1) := by decide +kernel
theorem dX10_init_139 : decode cX10_init 139 = .ok (.bipush 8, 2) := by decide +kernel
theorem dX10_init_141 : decode cX10_init 141 = .ok (.newarray .int, 2) := by decide +kernel
theorem dX10_init_143 : decode cX10_init 143 = .ok (.putfield 62, 3) := by decide +kernel
theorem dX10_init_146 : decode cX10_init 146 = .ok (.aload_n 0, 1) := by decide +kernel
theorem dX10_init_147 : decode cX10_init 147 = .ok (.bipush 8, 2) := by decide +kernel
theorem dX10_init_149 : decode cX10_init 149 = .ok (.newarray .boolean, 2) := by decide +kernel
theorem dX10_init_151 : decode cX10_init 151 = .ok (.putfield 65, 3) := by decide +kernel
theorem dX10_init_154 : decode cX10_init 154 = .ok (.aload_n 0, 1) := by decide +kernel
theorem dX10_init_155 : decode cX10_init 155 = .ok (.bipush 15, 2) := by decide +kernel
theorem dX10_init_157 : decode cX10_init 157 = .ok (.newarray .int, 2) := by decide +kernel
theorem dX10_init_159 : decode cX10_init 159 = .ok (.putfield 69, 3) := by decide +kernel
theorem dX10_init_162 : decode cX10_init 162 = .ok (.aload_n 0, 1) := by decide +kernel
theorem dX10_init_163 : decode cX10_init 163 = .ok (.bipush 15, 2) := by decide +kernel
theorem dX10_init_165 : decode cX10_init 165 = .ok (.newarray .int, 2) := by decide +kernel
theorem dX10_init_167 : decode cX10_init 167 = .ok (.putfield 72, 3) := by decide +kernel
theorem dX10_init_170 : decode cX10_init 170 = .ok (.aload_n 0, 1) := by decide +kernel
theorem dX10_init_171 : decode cX10_init 171 = .ok (.bipush 40, 2) := by decide +kernel
theorem dX10_init_173 : decode cX10_init 173 = .ok (.newarray .int, 2) := by decide +kernel
theorem dX10_init_175 : decode cX10_init 175 = .ok (.putfield 75, 3) := by decide +kernel
theorem dX10_init_178 : decode cX10_init 178 = .ok (.aload_n 0, 1) := by decide +kernel
theorem dX10_init_179 : decode cX10_init 179 = .ok (.iconst 2, 1) := by decide +kernel
theorem dX10_init_180 : decode cX10_init 180 = .ok (.newarray .boolean, 2) := by decide +kernel
theorem dX10_init_182 : decode cX10_init 182 = .ok (.putfield 78, 3) := by decide +kernel
theorem dX10_init_185 : decode cX10_init 185 = .ok (.aload_n 0, 1) := by decide +kernel
theorem dX10_init_186 : decode cX10_init 186 = .ok (.iconst 0, 1) := by decide +kernel
theorem dX10_init_187 : decode cX10_init 187 = .ok (.putfield 81, 3) := by decide +kernel
theorem dX10_init_190 : decode cX10_init 190 = .ok (.return_, 1) := by decide +kernel
theorem dX10_in_0 : decode cX10_in 0 = .ok (.lload_n 0, 1) := by decide +kernel
theorem dX10_in_1 : decode cX10_in 1 = .ok (.lload_n 2, 1) := by decide +kernel
theorem dX10_in_2 : decode cX10_in 2 = .ok (.lcmp, 1) := by decide +kernel
theorem dX10_in_3 : decode cX10_in 3 = .ok (.ifCond .lt 14, 3) := by decide +kernel
theorem dX10_in_6 : decode cX10_in 6 = .ok (.lload_n 0, 1) := by decide +kernel
theorem dX10_in_7 : decode cX10_in 7 = .ok (.lload 4, 2) := by decide +kernel
theorem dX10_in_9 : decode cX10_in 9 = .ok (.lcmp, 1) := by decide +kernel
theorem dX10_in_10 : decode cX10_in 10 = .ok (.ifCond .gt 7, 3) := by decide +kernel
theorem dX10_in_13 : decode cX10_in 13 = .ok (.iconst 1, 1) := by decide +kernel
theorem dX10_in_14 : decode cX10_in 14 = .ok (.goto 4, 3) := by decide +kernel
theorem dX10_in_17 : decode cX10_in 17 = .ok (.iconst 0, 1) := by decide +kernel
theorem dX10_in_18 : decode cX10_in 18 = .ok (.ireturn, 1) := by decide +kernel
theorem dX10_has_0 : decode cX10_has 0 = .ok (.iload_n 0, 1) := by decide +kernel
theorem dX10_has_1 : decode cX10_has 1 = .ok (.iload_n 1, 1) := by decide +kernel
theorem dX10_has_2 : decode cX10_has 2 = .ok (.ishr, 1) := by decide +kernel
theorem dX10_has_3 : decode cX10_has 3 = .ok (.iconst 1, 1) := by decide +kernel
theorem dX10_has_4 : decode cX10_has 4 = .ok (.iand, 1) := by decide +kernel
theorem dX10_has_5 : decode cX10_has 5 = .ok (.iconst 1, 1) := by decide +kernel
theorem dX10_has_6 : decode cX10_has 6 = .ok (.if_icmp .ne 7, 3) := by decide +kernel
theorem dX10_has_9 : decode cX10_has 9 = .ok (.iconst 1, 1) := by decide +kernel
theorem dX10_has_10 : decode cX10_has 10 = .ok (.goto 4, 3) := by decide +kernel
theorem dX10_has_13 : decode cX10_has 13 = .ok (.iconst 0, 1) := by decide +kernel
theorem dX10_has_14 : decode cX10_has 14 = .ok (.ireturn, 1) := by decide +kernel
theorem dX10_bits_0 : decode cX10_bits 0 = .ok (.iconst 0, 1) := by decide +kernel
theorem dX10_bits_1 : decode cX10_bits 1 = .ok (.istore_n 1, 1) := by decide +kernel
theorem dX10_bits_2 : decode cX10_bits 2 = .ok (.iconst 0, 1) := by decide +kernel
theorem dX10_bits_3 : decode cX10_bits 3 = .ok (.istore_n 2, 1) := by decide +kernel
theorem dX10_bits_4 : decode cX10_bits 4 = .ok (.iload_n 2, 1) := by decide +kernel
theorem dX10_bits_5 : decode cX10_bits 5 = .ok (.bipush 8, 2) := by decide +kernel
theorem dX10_bits_7 : decode cX10_bits 7 = .ok (.if_icmp .ge 17, 3) := by decide +kernel
theorem dX10_bits_10 : decode cX10_bits 10 = .ok (.iload_n 1, 1) := by decide +kernel
theorem dX10_bits_11 : decode cX10_bits 11 = .ok (.iload_n 0, 1) := by decide +kernel
theorem dX10_bits_12 : decode cX10_bits 12 = .ok (.iload_n 2, 1) := by decide +kernel
theorem dX10_bits_13 : decode cX10_bits 13 = .ok (.ishr, 1) := by decide +kernel
theorem dX10_bits_14 : decode cX10_bits 14 = .ok (.iconst 1, 1) := by decide +kernel
theorem dX10_bits_15 : decode cX10_bits 15 = .ok (.iand, 1) := by decide +kernel
theorem dX10_bits_16 : decode cX10_bits 16 = .ok (.iadd, 1) := by decide +kernel
theorem dX10_bits_17 : decode cX10_bits 17 = .ok (.istore_n 1, 1) := by decide +kernel
theorem dX10_bits_18 : decode cX10_bits 18 = .ok (.iinc 2 1, 3) := by decide +kernel
theorem dX10_bits_21 : decode cX10_bits 21 = .ok (.goto (-17), 3) := by decide +kernel
theorem dX10_bits_24 : decode cX10_bits 24 = .ok (.iload_n 1, 1) := by decide +kernel
theorem dX10_bits_25 : decode cX10_bits 25 = .ok (.ireturn, 1) := by decide +kernel
theorem dX10_atMost_0 : decode cX10_atMost 0 = .ok (.iload_n 0, 1) := by decide +kernel
theorem dX10_atMost_1 : decode cX10_atMost 1 = .ok (.iload_n 1, 1) := by decide +kernel
theorem dX10_atMost_2 : decode cX10_atMost 2 = .ok (.if_icmp .ge 7, 3) := by decide +kernel
theorem dX10_atMost_5 : decode cX10_atMost 5 = .ok (.iload_n 0, 1) := by decide +kernel
theorem dX10_atMost_6 : decode cX10_atMost 6 = .ok (.goto 4, 3) := by decide +kernel
theorem dX10_atMost_9 : decode cX10_atMost 9 = .ok (.iload_n 1, 1) := by decide +kernel
theorem dX10_atMost_10 : decode cX10_atMost 10 = .ok (.ireturn, 1) := by decide +kernel
theorem dX10_atLeast_0 : decode cX10_atLeast 0 = .ok (.iload_n 0, 1) := by decide +kernel
theorem dX10_atLeast_1 : decode cX10_atLeast 1 = .ok (.iload_n 1, 1) := by decide +kernel
theorem dX10_atLeast_2 : decode cX10_atLeast 2 = .ok (.if_icmp .le 7, 3) := by decide +kernel
theorem dX10_atLeast_5 : decode cX10_atLeast 5 = .ok (.iload_n 0, 1) := by decide +kernel
theorem dX10_atLeast_6 : decode cX10_atLeast 6 = .ok (.goto 4, 3) := by decide +kernel
theorem dX10_atLeast_9 : decode cX10_atLeast 9 = .ok (.iload_n 1, 1) := by decide +kernel
theorem dX10_atLeast_10 : decode cX10_atLeast 10 = .ok (.ireturn, 1) := by decide +kernel
theorem dX10_isWatcher_0 : decode cX10_isWatcher 0 = .ok (.iload_n 1, 1) := by decide +kernel
theorem dX10_isWatcher_1 : decode cX10_isWatcher 1 = .ok (.i2l, 1) := by decide +kernel
theorem dX10_isWatcher_2 : decode cX10_isWatcher 2 = .ok (.lconst 0, 1) := by decide +kernel
theorem dX10_isWatcher_3 : decode cX10_isWatcher 3 = .ok (.aload_n 0, 1) := by decide +kernel
theorem dX10_isWatcher_4 : decode cX10_isWatcher 4 = .ok (.getfield 84, 3) := by decide +kernel
theorem dX10_isWatcher_7 : decode cX10_isWatcher 7 = .ok (.iconst 1, 1) := by decide +kernel
theorem dX10_isWatcher_8 : decode cX10_isWatcher 8 = .ok (.isub, 1) := by decide +kernel
theorem dX10_isWatcher_9 : decode cX10_isWatcher 9 = .ok (.i2l, 1) := by decide +kernel
theorem dX10_isWatcher_10 : decode cX10_isWatcher 10 = .ok (.invokestatic 87, 3) := by decide +kernel
theorem dX10_isWatcher_13 : decode cX10_isWatcher 13 = .ok (.ireturn, 1) := by decide +kernel
theorem dX10_isSleeper_0 : decode cX10_isSleeper 0 = .ok (.iload_n 1, 1) := by decide +kernel
theorem dX10_isSleeper_1 : decode cX10_isSleeper 1 = .ok (.i2l, 1) := by decide +kernel
theorem dX10_isSleeper_2 : decode cX10_isSleeper 2 = .ok (.lconst 0, 1) := by decide +kernel
theorem dX10_isSleeper_3 : decode cX10_isSleeper 3 = .ok (.aload_n 0, 1) := by decide +kernel
theorem dX10_isSleeper_4 : decode cX10_isSleeper 4 = .ok (.getfield 91, 3) := by decide +kernel
theorem dX10_isSleeper_7 : decode cX10_isSleeper 7 = .ok (.iconst 1, 1) := by decide +kernel
theorem dX10_isSleeper_8 : decode cX10_isSleeper 8 = .ok (.isub, 1) := by decide +kernel
theorem dX10_isSleeper_9 : decode cX10_isSleeper 9 = .ok (.i2l, 1) := by decide +kernel
theorem dX10_isSleeper_10 : decode cX10_isSleeper 10 = .ok (.invokestatic 87, 3) := by decide +kernel
theorem dX10_isSleeper_13 : decode cX10_isSleeper 13 = .ok (.ireturn, 1) := by decide +kernel
theorem dX10_isSet_0 : decode cX10_isSet 0 = .ok (.iload_n 1, 1) := by decide +kernel
theorem dX10_isSet_1 : decode cX10_isSet 1 = .ok (.i2l, 1) := by decide +kernel
theorem dX10_isSet_2 : decode cX10_isSet 2 = .ok (.lconst 0, 1) := by decide +kernel
theorem dX10_isSet_3 : decode cX10_isSet 3 = .ok (.iconst 1, 1) := by decide +kernel
theorem dX10_isSet_4 : decode cX10_isSet 4 = .ok (.aload_n 0, 1) := by decide +kernel
theorem dX10_isSet_5 : decode cX10_isSet 5 = .ok (.getfield 84, 3) := by decide +kernel
theorem dX10_isSet_8 : decode cX10_isSet 8 = .ok (.ishl, 1) := by decide +kernel
theorem dX10_isSet_9 : decode cX10_isSet 9 = .ok (.iconst 1, 1) := by decide +kernel
theorem dX10_isSet_10 : decode cX10_isSet 10 = .ok (.isub, 1) := by decide +kernel
theorem dX10_isSet_11 : decode cX10_isSet 11 = .ok (.i2l, 1) := by decide +kernel
theorem dX10_isSet_12 : decode cX10_isSet 12 = .ok (.invokestatic 87, 3) := by decide +kernel
theorem dX10_isSet_15 : decode cX10_isSet 15 = .ok (.ireturn, 1) := by decide +kernel
theorem dX10_feed_0 : decode cX10_feed 0 = .ok (.iload_n 1, 1) := by decide +kernel
theorem dX10_feed_1 : decode cX10_feed 1 = .ok (.i2l, 1) := by decide +kernel
theorem dX10_feed_2 : decode cX10_feed 2 = .ok (.lconst 0, 1) := by decide +kernel
theorem dX10_feed_3 : decode cX10_feed 3 = .ok (.ldc2_w 94, 3) := by decide +kernel
theorem dX10_feed_6 : decode cX10_feed 6 = .ok (.invokestatic 87, 3) := by decide +kernel
theorem dX10_feed_9 : decode cX10_feed 9 = .ok (.ifCond .ne 6, 3) := by decide +kernel
theorem dX10_feed_12 : decode cX10_feed 12 = .ok (.ldc 96, 2) := by decide +kernel
theorem dX10_feed_14 : decode cX10_feed 14 = .ok (.ireturn, 1) := by decide +kernel
theorem dX10_feed_15 : decode cX10_feed 15 = .ok (.aload_n 0, 1) := by decide +kernel
theorem dX10_feed_16 : decode cX10_feed 16 = .ok (.getfield 97, 3) := by decide +kernel
theorem dX10_feed_19 : decode cX10_feed 19 = .ok (.sipush 220, 3) := by decide +kernel
theorem dX10_feed_22 : decode cX10_feed 22 = .ok (.if_icmp .ne 6, 3) := by decide +kernel
theorem dX10_feed_25 : decode cX10_feed 25 = .ok (.ldc 100, 2) := by decide +kernel
theorem dX10_feed_27 : decode cX10_feed 27 = .ok (.ireturn, 1) := by decide +kernel
theorem dX10_feed_28 : decode cX10_feed 28 = .ok (.aload_n 0, 1) := by decide +kernel
theorem dX10_feed_29 : decode cX10_feed 29 = .ok (.getfield 25, 3) := by decide +kernel
theorem dX10_feed_32 : decode cX10_feed 32 = .ok (.aload_n 0, 1) := by decide +kernel
theorem dX10_feed_33 : decode cX10_feed 33 = .ok (.getfield 97, 3) := by decide +kernel
theorem dX10_feed_36 : decode cX10_feed 36 = .ok (.iload_n 1, 1) := by decide +kernel
theorem dX10_feed_37 : decode cX10_feed 37 = .ok (.iastore, 1) := by decide +kernel
theorem dX10_feed_38 : decode cX10_feed 38 = .ok (.aload_n 0, 1) := by decide +kernel
theorem dX10_feed_39 : decode cX10_feed 39 = .ok (.dup, 1) := by decide +kernel
theorem dX10_feed_40 : decode cX10_feed 40 = .ok (.getfield 97, 3) := by decide +kernel
theorem dX10_feed_43 : decode cX10_feed 43 = .ok (.iconst 1, 1) := by decide +kernel
theorem dX10_feed_44 : decode cX10_feed 44 = .ok (.iadd, 1) := by decide +kernel
theorem dX10_feed_45 : decode cX10_feed 45 = .ok (.putfield 97, 3) := by decide +kernel
theorem dX10_feed_48 : decode cX10_feed 48 = .ok (.aload_n 0, 1) := by decide +kernel
theorem dX10_feed_49 : decode cX10_feed 49 = .ok (.getfield 97, 3) := by decide +kernel
theorem dX10_feed_52 : decode cX10_feed 52 = .ok (.ireturn, 1) := by decide +kernel
theorem dX10_here_0 : decode cX10_here 0 = .ok (.aload_n 0, 1) := by decide +kernel
theorem dX10_here_1 : decode cX10_here 1 = .ok (.getfield 101, 3) := by decide +kernel
theorem dX10_here_4 : decode cX10_here 4 = .ok (.aload_n 0, 1) := by decide +kernel
theorem dX10_here_5 : decode cX10_here 5 = .ok (.getfield 97, 3) := by decide +kernel
theorem dX10_here_8 : decode cX10_here 8 = .ok (.if_icmp .ge 30, 3) := by decide +kernel
theorem dX10_here_11 : decode cX10_here 11 = .ok (.aload_n 0, 1) := by decide +kernel
theorem dX10_here_12 : decode cX10_here 12 = .ok (.getfield 25, 3) := by decide +kernel
theorem dX10_here_15 : decode cX10_here 15 = .ok (.aload_n 0, 1) := by decide +kernel
theorem dX10_here_16 : decode cX10_here 16 = .ok (.getfield 101, 3) := by decide +kernel
theorem dX10_here_19 : decode cX10_here 19 = .ok (.iaload, 1) := by decide +kernel
theorem dX10_here_20 : decode cX10_here 20 = .ok (.bipush 32, 2) := by decide +kernel
theorem dX10_here_22 : decode cX10_here 22 = .ok (.if_icmp .ne 16, 3) := by decide +kernel
theorem dX10_here_25 : decode cX10_here 25 = .ok (.aload_n 0, 1) := by decide +kernel
theorem dX10_here_26 : decode cX10_here 26 = .ok (.dup, 1) := by decide +kernel
theorem dX10_here_27 : decode cX10_here 27 = .ok (.getfield 101, 3) := by decide +kernel
theorem dX10_here_30 : decode cX10_here 30 = .ok (.iconst 1, 1) := by decide +kernel
theorem dX10_here_31 : decode cX10_here 31 = .ok (.iadd, 1) := by decide +kernel
theorem dX10_here_32 : decode cX10_here 32 = .ok (.putfield 101, 3) := by decide +kernel
theorem dX10_here_35 : decode cX10_here 35 = .ok (.goto (-35), 3) := by decide +kernel
theorem dX10_here_38 : decode cX10_here 38 = .ok (.aload_n 0, 1) := by decide +kernel
theorem dX10_here_39 : decode cX10_here 39 = .ok (.getfield 101, 3) := by decide +kernel
theorem dX10_here_42 : decode cX10_here 42 = .ok (.aload_n 0, 1) := by decide +kernel
theorem dX10_here_43 : decode cX10_here 43 = .ok (.getfield 97, 3) := by decide +kernel
theorem dX10_here_46 : decode cX10_here 46 = .ok (.if_icmp .ge 15, 3) := by decide +kernel
theorem dX10_here_49 : decode cX10_here 49 = .ok (.aload_n 0, 1) := by decide +kernel
theorem dX10_here_50 : decode cX10_here 50 = .ok (.getfield 25, 3) := by decide +kernel
theorem dX10_here_53 : decode cX10_here 53 = .ok (.aload_n 0, 1) := by decide +kernel
theorem dX10_here_54 : decode cX10_here 54 = .ok (.getfield 101, 3) := by decide +kernel
theorem dX10_here_57 : decode cX10_here 57 = .ok (.iaload, 1) := by decide +kernel
theorem dX10_here_58 : decode cX10_here 58 = .ok (.goto 4, 3) := by decide +kernel
theorem dX10_here_61 : decode cX10_here 61 = .ok (.iconst (-1), 1) := by decide +kernel
theorem dX10_here_62 : decode cX10_here 62 = .ok (.ireturn, 1) := by decide +kernel
theorem dX10_fails_0 : decode cX10_fails 0 = .ok (.aload_n 0, 1) := by decide +kernel
theorem dX10_fails_1 : decode cX10_fails 1 = .ok (.iload_n 2, 1) := by decide +kernel
theorem dX10_fails_2 : decode cX10_fails 2 = .ok (.putfield 28, 3) := by decide +kernel
theorem dX10_fails_5 : decode cX10_fails 5 = .ok (.iload_n 1, 1) := by decide +kernel
theorem dX10_fails_6 : decode cX10_fails 6 = .ok (.ireturn, 1) := by decide +kernel
theorem dX10_takeNumber_0 : decode cX10_takeNumber 0 = .ok (.aload_n 0, 1) := by decide +kernel
theorem dX10_takeNumber_1 : decode cX10_takeNumber 1 = .ok (.invokevirtual 104, 3) := by decide +kernel
theorem dX10_takeNumber_4 : decode cX10_takeNumber 4 = .ok (.istore_n 3, 1) := by decide +kernel
theorem dX10_takeNumber_5 : decode cX10_takeNumber 5 = .ok (.iload_n 3, 1) := by decide +kernel
theorem dX10_takeNumber_6 : decode cX10_takeNumber 6 = .ok (.i2l, 1) := by decide +kernel
theorem dX10_takeNumber_7 : decode cX10_takeNumber 7 = .ok (.ldc2_w 108, 3) := by decide +kernel
theorem dX10_takeNumber_10 : decode cX10_takeNumber 10 = .ok (.ldc2_w 110, 3) := by decide +kernel
theorem dX10_takeNumber_13 : decode cX10_takeNumber 13 = .ok (.invokestatic 87, 3) := by decide +kernel
theorem dX10_takeNumber_16 : decode cX10_takeNumber 16 = .ok (.ifCond .ne 13, 3) := by decide +kernel
theorem dX10_takeNumber_19 : decode cX10_takeNumber 19 = .ok (.aload_n 0, 1) := by decide +kernel
theorem dX10_takeNumber_20 : decode cX10_takeNumber 20 = .ok (.iconst 1, 1) := by decide +kernel
theorem dX10_takeNumber_21 : decode cX10_takeNumber 21 = .ok (.aload_n 0, 1) := by decide +kernel
theorem dX10_takeNumber_22 : decode cX10_takeNumber 22 = .ok (.getfield 101, 3) := by decide +kernel
theorem dX10_takeNumber_25 : decode cX10_takeNumber 25 = .ok (.invokevirtual 112, 3) := by decide +kernel
theorem dX10_takeNumber_28 : decode cX10_takeNumber 28 = .ok (.ireturn, 1) := by decide +kernel
theorem dX10_takeNumber_29 : decode cX10_takeNumber 29 = .ok (.aload_n 0, 1) := by decide +kernel
theorem dX10_takeNumber_30 : decode cX10_takeNumber 30 = .ok (.aload_n 0, 1) := by decide +kernel
theorem dX10_takeNumber_31 : decode cX10_takeNumber 31 = .ok (.getfield 101, 3) := by decide +kernel
theorem dX10_takeNumber_34 : decode cX10_takeNumber 34 = .ok (.putfield 116, 3) := by decide +kernel
theorem dX10_takeNumber_37 : decode cX10_takeNumber 37 = .ok (.aload_n 0, 1) := by decide +kernel
theorem dX10_takeNumber_38 : decode cX10_takeNumber 38 = .ok (.iconst 0, 1) := by decide +kernel
theorem dX10_takeNumber_39 : decode cX10_takeNumber 39 = .ok (.putfield 119, 3) := by decide +kernel
theorem dX10_takeNumber_42 : decode cX10_takeNumber 42 = .ok (.aload_n 0, 1) := by decide +kernel
theorem dX10_takeNumber_43 : decode cX10_takeNumber 43 = .ok (.getfield 101, 3) := by decide +kernel
theorem dX10_takeNumber_46 : decode cX10_takeNumber 46 = .ok (.aload_n 0, 1) := by decide +kernel
theorem dX10_takeNumber_47 : decode cX10_takeNumber 47 = .ok (.getfield 97, 3) := by decide +kernel
theorem dX10_takeNumber_50 : decode cX10_takeNumber 50 = .ok (.if_icmp .ge 79, 3) := by decide +kernel
theorem dX10_takeNumber_53 : decode cX10_takeNumber 53 = .ok (.aload_n 0, 1) := by decide +kernel
theorem dX10_takeNumber_54 : decode cX10_takeNumber 54 = .ok (.getfield 25, 3) := by decide +kernel
theorem dX10_takeNumber_57 : decode cX10_takeNumber 57 = .ok (.aload_n 0, 1) := by decide +kernel
theorem dX10_takeNumber_58 : decode cX10_takeNumber 58 = .ok (.getfield 101, 3) := by decide +kernel
theorem dX10_takeNumber_61 : decode cX10_takeNumber 61 = .ok (.iaload, 1) := by decide +kernel
theorem dX10_takeNumber_62 : decode cX10_takeNumber 62 = .ok (.i2l, 1) := by decide +kernel
theorem dX10_takeNumber_63 : decode cX10_takeNumber 63 = .ok (.ldc2_w 108, 3) := by decide +kernel
theorem dX10_takeNumber_66 : decode cX10_takeNumber 66 = .ok (.ldc2_w 110, 3) := by decide +kernel
theorem dX10_takeNumber_69 : decode cX10_takeNumber 69 = .ok (.invokestatic 87, 3) := by decide +kernel
theorem dX10_takeNumber_72 : decode cX10_takeNumber 72 = .ok (.ifCond .eq 57, 3) := by decide +kernel
theorem dX10_takeNumber_75 : decode cX10_takeNumber 75 = .ok (.aload_n 0, 1) := by decide +kernel
theorem dX10_takeNumber_76 : decode cX10_takeNumber 76 = .ok (.aload_n 0, 1) := by decide +kernel
theorem dX10_takeNumber_77 : decode cX10_takeNumber 77 = .ok (.getfield 119, 3) := by decide +kernel
theorem dX10_takeNumber_80 : decode cX10_takeNumber 80 = .ok (.sipush 10000, 3) := by decide +kernel
theorem dX10_takeNumber_83 : decode cX10_takeNumber 83 = .ok (.if_icmp .le 10, 3) := by decide +kernel
theorem dX10_takeNumber_86 : decode cX10_takeNumber 86 = .ok (.aload_n 0, 1) := by decide +kernel
theorem dX10_takeNumber_87 : decode cX10_takeNumber 87 = .ok (.getfield 119, 3) := by decide +kernel
theorem dX10_takeNumber_90 : decode cX10_takeNumber 90 = .ok (.goto 23, 3) := by decide +kernel
theorem dX10_takeNumber_93 : decode cX10_takeNumber 93 = .ok (.bipush 10, 2) := by decide +kernel
theorem dX10_takeNumber_95 : decode cX10_takeNumber 95 = .ok (.aload_n 0, 1) := by decide +kernel
theorem dX10_takeNumber_96 : decode cX10_takeNumber 96 = .ok (.getfield 119, 3) := by decide +kernel
theorem dX10_takeNumber_99 : decode cX10_takeNumber 99 = .ok (.imul, 1) := by decide +kernel
theorem dX10_takeNumber_100 : decode cX10_takeNumber 100 = .ok (.aload_n 0, 1) := by decide +kernel
theorem dX10_takeNumber_101 : decode cX10_takeNumber 101 = .ok (.getfield 25, 3) := by decide +kernel
theorem dX10_takeNumber_104 : decode cX10_takeNumber 104 = .ok (.aload_n 0, 1) := by decide +kernel
theorem dX10_takeNumber_105 : decode cX10_takeNumber 105 = .ok (.getfield 101, 3) := by decide +kernel
theorem dX10_takeNumber_108 : decode cX10_takeNumber 108 = .ok (.iaload, 1) := by decide +kernel
theorem dX10_takeNumber_109 : decode cX10_takeNumber 109 = .ok (.iadd, 1) := by decide +kernel
theorem dX10_takeNumber_110 : decode cX10_takeNumber 110 = .ok (.bipush 48, 2) := by decide +kernel
theorem dX10_takeNumber_112 : decode cX10_takeNumber 112 = .ok (.isub, 1) := by decide +kernel
theorem dX10_takeNumber_113 : decode cX10_takeNumber 113 = .ok (.putfield 119, 3) := by decide +kernel
theorem dX10_takeNumber_116 : decode cX10_takeNumber 116 = .ok (.aload_n 0, 1) := by decide +kernel
theorem dX10_takeNumber_117 : decode cX10_takeNumber 117 = .ok (.dup, 1) := by decide +kernel
theorem dX10_takeNumber_118 : decode cX10_takeNumber 118 = .ok (.getfield 101, 3) := by decide +kernel
theorem dX10_takeNumber_121 : decode cX10_takeNumber 121 = .ok (.iconst 1, 1) := by decide +kernel
theorem dX10_takeNumber_122 : decode cX10_takeNumber 122 = .ok (.iadd, 1) := by decide +kernel
theorem dX10_takeNumber_123 : decode cX10_takeNumber 123 = .ok (.putfield 101, 3) := by decide +kernel
theorem dX10_takeNumber_126 : decode cX10_takeNumber 126 = .ok (.goto (-84), 3) := by decide +kernel
theorem dX10_takeNumber_129 : decode cX10_takeNumber 129 = .ok (.aload_n 0, 1) := by decide +kernel
theorem dX10_takeNumber_130 : decode cX10_takeNumber 130 = .ok (.getfield 101, 3) := by decide +kernel
theorem dX10_takeNumber_133 : decode cX10_takeNumber 133 = .ok (.aload_n 0, 1) := by decide +kernel
theorem dX10_takeNumber_134 : decode cX10_takeNumber 134 = .ok (.getfield 116, 3) := by decide +kernel
theorem dX10_takeNumber_137 : decode cX10_takeNumber 137 = .ok (.isub, 1) := by decide +kernel
theorem dX10_takeNumber_138 : decode cX10_takeNumber 138 = .ok (.iconst 3, 1) := by decide +kernel
theorem dX10_takeNumber_139 : decode cX10_takeNumber 139 = .ok (.if_icmp .gt 18, 3) := by decide +kernel
theorem dX10_takeNumber_142 : decode cX10_takeNumber 142 = .ok (.aload_n 0, 1) := by decide +kernel
theorem dX10_takeNumber_143 : decode cX10_takeNumber 143 = .ok (.getfield 119, 3) := by decide +kernel
theorem dX10_takeNumber_146 : decode cX10_takeNumber 146 = .ok (.i2l, 1) := by decide +kernel
theorem dX10_takeNumber_147 : decode cX10_takeNumber 147 = .ok (.iload_n 1, 1) := by decide +kernel
theorem dX10_takeNumber_148 : decode cX10_takeNumber 148 = .ok (.i2l, 1) := by decide +kernel
theorem dX10_takeNumber_149 : decode cX10_takeNumber 149 = .ok (.iload_n 2, 1) := by decide +kernel
theorem dX10_takeNumber_150 : decode cX10_takeNumber 150 = .ok (.i2l, 1) := by decide +kernel
theorem dX10_takeNumber_151 : decode cX10_takeNumber 151 = .ok (.invokestatic 87, 3) := by decide +kernel
theorem dX10_takeNumber_154 : decode cX10_takeNumber 154 = .ok (.ifCond .ne 15, 3) := by decide +kernel
theorem dX10_takeNumber_157 : decode cX10_takeNumber 157 = .ok (.aload_n 0, 1) := by decide +kernel
theorem dX10_takeNumber_158 : decode cX10_takeNumber 158 = .ok (.iconst 2, 1) := by decide +kernel
theorem dX10_takeNumber_159 : decode cX10_takeNumber 159 = .ok (.aload_n 0, 1) := by decide +kernel
theorem dX10_takeNumber_160 : decode cX10_takeNumber 160 = .ok (.getfield 116, 3) := by decide +kernel
theorem dX10_takeNumber_163 : decode cX10_takeNumber 163 = .ok (.invokevirtual 112, 3) := by decide +kernel
theorem dX10_takeNumber_166 : decode cX10_takeNumber 166 = .ok (.goto 4, 3) := by decide +kernel
theorem dX10_takeNumber_169 : decode cX10_takeNumber 169 = .ok (.iconst 0, 1) := by decide +kernel
theorem dX10_takeNumber_170 : decode cX10_takeNumber 170 = .ok (.ireturn, 1) := by decide +kernel
theorem dX10_into_0 : decode cX10_into 0 = .ok (.aload_n 0, 1) := by decide +kernel
theorem dX10_into_1 : decode cX10_into 1 = .ok (.iload_n 3, 1) := by decide +kernel
theorem dX10_into_2 : decode cX10_into 2 = .ok (.iload 4, 2) := by decide +kernel
theorem dX10_into_4 : decode cX10_into 4 = .ok (.invokevirtual 122, 3) := by decide +kernel
theorem dX10_into_7 : decode cX10_into 7 = .ok (.istore 5, 2) := by decide +kernel
theorem dX10_into_9 : decode cX10_into 9 = .ok (.aload_n 1, 1) := by decide +kernel
theorem dX10_into_10 : decode cX10_into 10 = .ok (.iload_n 2, 1) := by decide +kernel
theorem dX10_into_11 : decode cX10_into 11 = .ok (.aload_n 0, 1) := by decide +kernel
theorem dX10_into_12 : decode cX10_into 12 = .ok (.getfield 119, 3) := by decide +kernel
theorem dX10_into_15 : decode cX10_into 15 = .ok (.iastore, 1) := by decide +kernel
theorem dX10_into_16 : decode cX10_into 16 = .ok (.iload 5, 2) := by decide +kernel
theorem dX10_into_18 : decode cX10_into 18 = .ok (.ireturn, 1) := by decide +kernel
theorem dX10_takeContract_0 : decode cX10_takeContract 0 = .ok (.aload_n 0, 1) := by decide +kernel
theorem dX10_takeContract_1 : decode cX10_takeContract 1 = .ok (.aload_n 0, 1) := by decide +kernel
theorem dX10_takeContract_2 : decode cX10_takeContract 2 = .ok (.getfield 32, 3) := by decide +kernel
theorem dX10_takeContract_5 : decode cX10_takeContract 5 = .ok (.iconst 0, 1) := by decide +kernel
theorem dX10_takeContract_6 : decode cX10_takeContract 6 = .ok (.iconst 1, 1) := by decide +kernel
theorem dX10_takeContract_7 : decode cX10_takeContract 7 = .ok (.bipush 6, 2) := by decide +kernel
theorem dX10_takeContract_9 : decode cX10_takeContract 9 = .ok (.invokevirtual 125, 3) := by decide +kernel
theorem dX10_takeContract_12 : decode cX10_takeContract 12 = .ok (.istore_n 1, 1) := by decide +kernel
theorem dX10_takeContract_13 : decode cX10_takeContract 13 = .ok (.iload_n 1, 1) := by decide +kernel
theorem dX10_takeContract_14 : decode cX10_takeContract 14 = .ok (.ifCond .le 7, 3) := by decide +kernel
theorem dX10_takeContract_17 : decode cX10_takeContract 17 = .ok (.iload_n 1, 1) := by decide +kernel
theorem dX10_takeContract_18 : decode cX10_takeContract 18 = .ok (.goto 15, 3) := by decide +kernel
theorem dX10_takeContract_21 : decode cX10_takeContract 21 = .ok (.aload_n 0, 1) := by decide +kernel
theorem dX10_takeContract_22 : decode cX10_takeContract 22 = .ok (.aload_n 0, 1) := by decide +kernel
theorem dX10_takeContract_23 : decode cX10_takeContract 23 = .ok (.getfield 32, 3) := by decide +kernel
theorem dX10_takeContract_26 : decode cX10_takeContract 26 = .ok (.iconst 1, 1) := by decide +kernel
theorem dX10_takeContract_27 : decode cX10_takeContract 27 = .ok (.iconst 0, 1) := by decide +kernel
theorem dX10_takeContract_28 : decode cX10_takeContract 28 = .ok (.bipush 99, 2) := by decide +kernel
theorem dX10_takeContract_30 : decode cX10_takeContract 30 = .ok (.invokevirtual 125, 3) := by decide +kernel
theorem dX10_takeContract_33 : decode cX10_takeContract 33 = .ok (.istore_n 1, 1) := by decide +kernel
theorem dX10_takeContract_34 : decode cX10_takeContract 34 = .ok (.iload_n 1, 1) := by decide +kernel
theorem dX10_takeContract_35 : decode cX10_takeContract 35 = .ok (.ifCond .le 7, 3) := by decide +kernel
theorem dX10_takeContract_38 : decode cX10_takeContract 38 = .ok (.iload_n 1, 1) := by decide +kernel
theorem dX10_takeContract_39 : decode cX10_takeContract 39 = .ok (.goto 15, 3) := by decide +kernel
theorem dX10_takeContract_42 : decode cX10_takeContract 42 = .ok (.aload_n 0, 1) := by decide +kernel
theorem dX10_takeContract_43 : decode cX10_takeContract 43 = .ok (.aload_n 0, 1) := by decide +kernel
theorem dX10_takeContract_44 : decode cX10_takeContract 44 = .ok (.getfield 32, 3) := by decide +kernel
theorem dX10_takeContract_47 : decode cX10_takeContract 47 = .ok (.iconst 2, 1) := by decide +kernel
theorem dX10_takeContract_48 : decode cX10_takeContract 48 = .ok (.iconst 0, 1) := by decide +kernel
theorem dX10_takeContract_49 : decode cX10_takeContract 49 = .ok (.bipush 99, 2) := by decide +kernel
theorem dX10_takeContract_51 : decode cX10_takeContract 51 = .ok (.invokevirtual 125, 3) := by decide +kernel
theorem dX10_takeContract_54 : decode cX10_takeContract 54 = .ok (.istore_n 1, 1) := by decide +kernel
theorem dX10_takeContract_55 : decode cX10_takeContract 55 = .ok (.iload_n 1, 1) := by decide +kernel
theorem dX10_takeContract_56 : decode cX10_takeContract 56 = .ok (.ifCond .le 7, 3) := by decide +kernel
theorem dX10_takeContract_59 : decode cX10_takeContract 59 = .ok (.iload_n 1, 1) := by decide +kernel
theorem dX10_takeContract_60 : decode cX10_takeContract 60 = .ok (.goto 15, 3) := by decide +kernel
theorem dX10_takeContract_63 : decode cX10_takeContract 63 = .ok (.aload_n 0, 1) := by decide +kernel
theorem dX10_takeContract_64 : decode cX10_takeContract 64 = .ok (.aload_n 0, 1) := by decide +kernel
theorem dX10_takeContract_65 : decode cX10_takeContract 65 = .ok (.getfield 32, 3) := by decide +kernel
theorem dX10_takeContract_68 : decode cX10_takeContract 68 = .ok (.iconst 3, 1) := by decide +kernel
theorem dX10_takeContract_69 : decode cX10_takeContract 69 = .ok (.iconst 0, 1) := by decide +kernel
theorem dX10_takeContract_70 : decode cX10_takeContract 70 = .ok (.bipush 20, 2) := by decide +kernel
theorem dX10_takeContract_72 : decode cX10_takeContract 72 = .ok (.invokevirtual 125, 3) := by decide +kernel
theorem dX10_takeContract_75 : decode cX10_takeContract 75 = .ok (.ireturn, 1) := by decide +kernel
theorem dX10_takeWatcher_0 : decode cX10_takeWatcher 0 = .ok (.aload_n 0, 1) := by decide +kernel
theorem dX10_takeWatcher_1 : decode cX10_takeWatcher 1 = .ok (.getfield 129, 3) := by decide +kernel
theorem dX10_takeWatcher_4 : decode cX10_takeWatcher 4 = .ok (.istore_n 1, 1) := by decide +kernel
theorem dX10_takeWatcher_5 : decode cX10_takeWatcher 5 = .ok (.aload_n 0, 1) := by decide +kernel
theorem dX10_takeWatcher_6 : decode cX10_takeWatcher 6 = .ok (.dup, 1) := by decide +kernel
theorem dX10_takeWatcher_7 : decode cX10_takeWatcher 7 = .ok (.getfield 129, 3) := by decide +kernel
theorem dX10_takeWatcher_10 : decode cX10_takeWatcher 10 = .ok (.iconst 1, 1) := by decide +kernel
theorem dX10_takeWatcher_11 : decode cX10_takeWatcher 11 = .ok (.iadd, 1) := by decide +kernel
theorem dX10_takeWatcher_12 : decode cX10_takeWatcher 12 = .ok (.putfield 129, 3) := by decide +kernel
theorem dX10_takeWatcher_15 : decode cX10_takeWatcher 15 = .ok (.aload_n 0, 1) := by decide +kernel
theorem dX10_takeWatcher_16 : decode cX10_takeWatcher 16 = .ok (.aload_n 0, 1) := by decide +kernel
theorem dX10_takeWatcher_17 : decode cX10_takeWatcher 17 = .ok (.getfield 35, 3) := by decide +kernel
theorem dX10_takeWatcher_20 : decode cX10_takeWatcher 20 = .ok (.iload_n 1, 1) := by decide +kernel
theorem dX10_takeWatcher_21 : decode cX10_takeWatcher 21 = .ok (.iconst 0, 1) := by decide +kernel
theorem dX10_takeWatcher_22 : decode cX10_takeWatcher 22 = .ok (.bipush 99, 2) := by decide +kernel
theorem dX10_takeWatcher_24 : decode cX10_takeWatcher 24 = .ok (.invokevirtual 125, 3) := by decide +kernel
theorem dX10_takeWatcher_27 : decode cX10_takeWatcher 27 = .ok (.istore_n 2, 1) := by decide +kernel
theorem dX10_takeWatcher_28 : decode cX10_takeWatcher 28 = .ok (.iload_n 2, 1) := by decide +kernel
theorem dX10_takeWatcher_29 : decode cX10_takeWatcher 29 = .ok (.ifCond .le 7, 3) := by decide +kernel
theorem dX10_takeWatcher_32 : decode cX10_takeWatcher 32 = .ok (.iload_n 2, 1) := by decide +kernel
theorem dX10_takeWatcher_33 : decode cX10_takeWatcher 33 = .ok (.goto 15, 3) := by decide +kernel
theorem dX10_takeWatcher_36 : decode cX10_takeWatcher 36 = .ok (.aload_n 0, 1) := by decide +kernel
theorem dX10_takeWatcher_37 : decode cX10_takeWatcher 37 = .ok (.aload_n 0, 1) := by decide +kernel
theorem dX10_takeWatcher_38 : decode cX10_takeWatcher 38 = .ok (.getfield 38, 3) := by decide +kernel
theorem dX10_takeWatcher_41 : decode cX10_takeWatcher 41 = .ok (.iload_n 1, 1) := by decide +kernel
theorem dX10_takeWatcher_42 : decode cX10_takeWatcher 42 = .ok (.iconst 0, 1) := by decide +kernel
theorem dX10_takeWatcher_43 : decode cX10_takeWatcher 43 = .ok (.bipush 30, 2) := by decide +kernel
theorem dX10_takeWatcher_45 : decode cX10_takeWatcher 45 = .ok (.invokevirtual 125, 3) := by decide +kernel
theorem dX10_takeWatcher_48 : decode cX10_takeWatcher 48 = .ok (.istore_n 2, 1) := by decide +kernel
theorem dX10_takeWatcher_49 : decode cX10_takeWatcher 49 = .ok (.iload_n 2, 1) := by decide +kernel
theorem dX10_takeWatcher_50 : decode cX10_takeWatcher 50 = .ok (.ifCond .le 7, 3) := by decide +kernel
theorem dX10_takeWatcher_53 : decode cX10_takeWatcher 53 = .ok (.iload_n 2, 1) := by decide +kernel
theorem dX10_takeWatcher_54 : decode cX10_takeWatcher 54 = .ok (.goto 15, 3) := by decide +kernel
theorem dX10_takeWatcher_57 : decode cX10_takeWatcher 57 = .ok (.aload_n 0, 1) := by decide +kernel
theorem dX10_takeWatcher_58 : decode cX10_takeWatcher 58 = .ok (.aload_n 0, 1) := by decide +kernel
theorem dX10_takeWatcher_59 : decode cX10_takeWatcher 59 = .ok (.getfield 41, 3) := by decide +kernel
theorem dX10_takeWatcher_62 : decode cX10_takeWatcher 62 = .ok (.iload_n 1, 1) := by decide +kernel
theorem dX10_takeWatcher_63 : decode cX10_takeWatcher 63 = .ok (.iconst 0, 1) := by decide +kernel
theorem dX10_takeWatcher_64 : decode cX10_takeWatcher 64 = .ok (.bipush 30, 2) := by decide +kernel
theorem dX10_takeWatcher_66 : decode cX10_takeWatcher 66 = .ok (.invokevirtual 125, 3) := by decide +kernel
theorem dX10_takeWatcher_69 : decode cX10_takeWatcher 69 = .ok (.istore_n 2, 1) := by decide +kernel
theorem dX10_takeWatcher_70 : decode cX10_takeWatcher 70 = .ok (.iload_n 2, 1) := by decide +kernel
theorem dX10_takeWatcher_71 : decode cX10_takeWatcher 71 = .ok (.ifCond .le 7, 3) := by decide +kernel
theorem dX10_takeWatcher_74 : decode cX10_takeWatcher 74 = .ok (.iload_n 2, 1) := by decide +kernel
theorem dX10_takeWatcher_75 : decode cX10_takeWatcher 75 = .ok (.goto 15, 3) := by decide +kernel
theorem dX10_takeWatcher_78 : decode cX10_takeWatcher 78 = .ok (.aload_n 0, 1) := by decide +kernel
theorem dX10_takeWatcher_79 : decode cX10_takeWatcher 79 = .ok (.aload_n 0, 1) := by decide +kernel
theorem dX10_takeWatcher_80 : decode cX10_takeWatcher 80 = .ok (.getfield 44, 3) := by decide +kernel
theorem dX10_takeWatcher_83 : decode cX10_takeWatcher 83 = .ok (.iload_n 1, 1) := by decide +kernel
theorem dX10_takeWatcher_84 : decode cX10_takeWatcher 84 = .ok (.iconst 0, 1) := by decide +kernel
theorem dX10_takeWatcher_85 : decode cX10_takeWatcher 85 = .ok (.bipush 99, 2) := by decide +kernel
theorem dX10_takeWatcher_87 : decode cX10_takeWatcher 87 = .ok (.invokevirtual 125, 3) := by decide +kernel
theorem dX10_takeWatcher_90 : decode cX10_takeWatcher 90 = .ok (.ireturn, 1) := by decide +kernel
theorem dX10_takeSleeper_0 : decode cX10_takeSleeper 0 = .ok (.aload_n 0, 1) := by decide +kernel
theorem dX10_takeSleeper_1 : decode cX10_takeSleeper 1 = .ok (.getfield 132, 3) := by decide +kernel
theorem dX10_takeSleeper_4 : decode cX10_takeSleeper 4 = .ok (.istore_n 1, 1) := by decide +kernel
theorem dX10_takeSleeper_5 : decode cX10_takeSleeper 5 = .ok (.aload_n 0, 1) := by decide +kernel
theorem dX10_takeSleeper_6 : decode cX10_takeSleeper 6 = .ok (.dup, 1) := by decide +kernel
theorem dX10_takeSleeper_7 : decode cX10_takeSleeper 7 = .ok (.getfield 132, 3) := by decide +kernel
theorem dX10_takeSleeper_10 : decode cX10_takeSleeper 10 = .ok (.iconst 1, 1) := by decide +kernel
theorem dX10_takeSleeper_11 : decode cX10_takeSleeper 11 = .ok (.iadd, 1) := by decide +kernel
theorem dX10_takeSleeper_12 : decode cX10_takeSleeper 12 = .ok (.putfield 132, 3) := by decide +kernel
theorem dX10_takeSleeper_15 : decode cX10_takeSleeper 15 = .ok (.aload_n 0, 1) := by decide +kernel
theorem dX10_takeSleeper_16 : decode cX10_takeSleeper 16 = .ok (.aload_n 0, 1) := by decide +kernel
theorem dX10_takeSleeper_17 : decode cX10_takeSleeper 17 = .ok (.getfield 47, 3) := by decide +kernel
theorem dX10_takeSleeper_20 : decode cX10_takeSleeper 20 = .ok (.iload_n 1, 1) := by decide +kernel
theorem dX10_takeSleeper_21 : decode cX10_takeSleeper 21 = .ok (.iconst 0, 1) := by decide +kernel
theorem dX10_takeSleeper_22 : decode cX10_takeSleeper 22 = .ok (.iconst 1, 1) := by decide +kernel
theorem dX10_takeSleeper_23 : decode cX10_takeSleeper 23 = .ok (.aload_n 0, 1) := by decide +kernel
theorem dX10_takeSleeper_24 : decode cX10_takeSleeper 24 = .ok (.getfield 129, 3) := by decide +kernel
theorem dX10_takeSleeper_27 : decode cX10_takeSleeper 27 = .ok (.ishl, 1) := by decide +kernel
theorem dX10_takeSleeper_28 : decode cX10_takeSleeper 28 = .ok (.iconst 1, 1) := by decide +kernel
theorem dX10_takeSleeper_29 : decode cX10_takeSleeper 29 = .ok (.isub, 1) := by decide +kernel
theorem dX10_takeSleeper_30 : decode cX10_takeSleeper 30 = .ok (.invokevirtual 125, 3) := by decide +kernel
theorem dX10_takeSleeper_33 : decode cX10_takeSleeper 33 = .ok (.ireturn, 1) := by decide +kernel
theorem dX10_takeClause_0 : decode cX10_takeClause 0 = .ok (.aload_n 0, 1) := by decide +kernel
theorem dX10_takeClause_1 : decode cX10_takeClause 1 = .ok (.invokevirtual 104, 3) := by decide +kernel
theorem dX10_takeClause_4 : decode cX10_takeClause 4 = .ok (.istore_n 1, 1) := by decide +kernel
theorem dX10_takeClause_5 : decode cX10_takeClause 5 = .ok (.iload_n 1, 1) := by decide +kernel
theorem dX10_takeClause_6 : decode cX10_takeClause 6 = .ok (.bipush 107, 2) := by decide +kernel
theorem dX10_takeClause_8 : decode cX10_takeClause 8 = .ok (.if_icmp .ne 7, 3) := by decide +kernel
theorem dX10_takeClause_11 : decode cX10_takeClause 11 = .ok (.iconst 0, 1) := by decide +kernel
theorem dX10_takeClause_12 : decode cX10_takeClause 12 = .ok (.goto 24, 3) := by decide +kernel
theorem dX10_takeClause_15 : decode cX10_takeClause 15 = .ok (.iload_n 1, 1) := by decide +kernel
theorem dX10_takeClause_16 : decode cX10_takeClause 16 = .ok (.bipush 112, 2) := by decide +kernel
theorem dX10_takeClause_18 : decode cX10_takeClause 18 = .ok (.if_icmp .ne 7, 3) := by decide +kernel
theorem dX10_takeClause_21 : decode cX10_takeClause 21 = .ok (.iconst 1, 1) := by decide +kernel
theorem dX10_takeClause_22 : decode cX10_takeClause 22 = .ok (.goto 14, 3) := by decide +kernel
theorem dX10_takeClause_25 : decode cX10_takeClause 25 = .ok (.iload_n 1, 1) := by decide +kernel
theorem dX10_takeClause_26 : decode cX10_takeClause 26 = .ok (.bipush 115, 2) := by decide +kernel
theorem dX10_takeClause_28 : decode cX10_takeClause 28 = .ok (.if_icmp .ne 7, 3) := by decide +kernel
theorem dX10_takeClause_31 : decode cX10_takeClause 31 = .ok (.iconst 2, 1) := by decide +kernel
theorem dX10_takeClause_32 : decode cX10_takeClause 32 = .ok (.goto 4, 3) := by decide +kernel
theorem dX10_takeClause_35 : decode cX10_takeClause 35 = .ok (.iconst (-1), 1) := by decide +kernel
theorem dX10_takeClause_36 : decode cX10_takeClause 36 = .ok (.istore_n 2, 1) := by decide +kernel
theorem dX10_takeClause_37 : decode cX10_takeClause 37 = .ok (.iload_n 2, 1) := by decide +kernel
theorem dX10_takeClause_38 : decode cX10_takeClause 38 = .ok (.ifCond .lt 16, 3) := by decide +kernel
theorem dX10_takeClause_41 : decode cX10_takeClause 41 = .ok (.iload_n 2, 1) := by decide +kernel
theorem dX10_takeClause_42 : decode cX10_takeClause 42 = .ok (.ifCond .le 22, 3) := by decide +kernel
theorem dX10_takeClause_45 : decode cX10_takeClause 45 = .ok (.aload_n 0, 1) := by decide +kernel
theorem dX10_takeClause_46 : decode cX10_takeClause 46 = .ok (.getfield 32, 3) := by decide +kernel
theorem dX10_takeClause_49 : decode cX10_takeClause 49 = .ok (.iconst 0, 1) := by decide +kernel
theorem dX10_takeClause_50 : decode cX10_takeClause 50 = .ok (.iaload, 1) := by decide +kernel
theorem dX10_takeClause_51 : decode cX10_takeClause 51 = .ok (.ifCond .ne 13, 3) := by decide +kernel
theorem dX10_takeClause_54 : decode cX10_takeClause 54 = .ok (.aload_n 0, 1) := by decide +kernel
theorem dX10_takeClause_55 : decode cX10_takeClause 55 = .ok (.iconst 1, 1) := by decide +kernel
theorem dX10_takeClause_56 : decode cX10_takeClause 56 = .ok (.aload_n 0, 1) := by decide +kernel
theorem dX10_takeClause_57 : decode cX10_takeClause 57 = .ok (.getfield 101, 3) := by decide +kernel
theorem dX10_takeClause_60 : decode cX10_takeClause 60 = .ok (.invokevirtual 112, 3) := by decide +kernel
theorem dX10_takeClause_63 : decode cX10_takeClause 63 = .ok (.ireturn, 1) := by decide +kernel
theorem dX10_takeClause_64 : decode cX10_takeClause 64 = .ok (.iload_n 2, 1) := by decide +kernel
theorem dX10_takeClause_65 : decode cX10_takeClause 65 = .ok (.ifCond .ne 20, 3) := by decide +kernel
theorem dX10_takeClause_68 : decode cX10_takeClause 68 = .ok (.aload_n 0, 1) := by decide +kernel
theorem dX10_takeClause_69 : decode cX10_takeClause 69 = .ok (.getfield 32, 3) := by decide +kernel
theorem dX10_takeClause_72 : decode cX10_takeClause 72 = .ok (.iconst 0, 1) := by decide +kernel
theorem dX10_takeClause_73 : decode cX10_takeClause 73 = .ok (.iaload, 1) := by decide +kernel
theorem dX10_takeClause_74 : decode cX10_takeClause 74 = .ok (.ifCond .le 7, 3) := by decide +kernel
theorem dX10_takeClause_77 : decode cX10_takeClause 77 = .ok (.iconst 1, 1) := by decide +kernel
theorem dX10_takeClause_78 : decode cX10_takeClause 78 = .ok (.goto 43, 3) := by decide +kernel
theorem dX10_takeClause_81 : decode cX10_takeClause 81 = .ok (.iconst 0, 1) := by decide +kernel
theorem dX10_takeClause_82 : decode cX10_takeClause 82 = .ok (.goto 39, 3) := by decide +kernel
theorem dX10_takeClause_85 : decode cX10_takeClause 85 = .ok (.iload_n 2, 1) := by decide +kernel
theorem dX10_takeClause_86 : decode cX10_takeClause 86 = .ok (.iconst 1, 1) := by decide +kernel
theorem dX10_takeClause_87 : decode cX10_takeClause 87 = .ok (.if_icmp .ne 20, 3) := by decide +kernel
theorem dX10_takeClause_90 : decode cX10_takeClause 90 = .ok (.aload_n 0, 1) := by decide +kernel
theorem dX10_takeClause_91 : decode cX10_takeClause 91 = .ok (.getfield 129, 3) := by decide +kernel
theorem dX10_takeClause_94 : decode cX10_takeClause 94 = .ok (.bipush 6, 2) := by decide +kernel
theorem dX10_takeClause_96 : decode cX10_takeClause 96 = .ok (.if_icmp .ne 7, 3) := by decide +kernel
theorem dX10_takeClause_99 : decode cX10_takeClause 99 = .ok (.iconst 1, 1) := by decide +kernel
theorem dX10_takeClause_100 : decode cX10_takeClause 100 = .ok (.goto 21, 3) := by decide +kernel
theorem dX10_takeClause_103 : decode cX10_takeClause 103 = .ok (.iconst 0, 1) := by decide +kernel
theorem dX10_takeClause_104 : decode cX10_takeClause 104 = .ok (.goto 17, 3) := by decide +kernel
theorem dX10_takeClause_107 : decode cX10_takeClause 107 = .ok (.aload_n 0, 1) := by decide +kernel
theorem dX10_takeClause_108 : decode cX10_takeClause 108 = .ok (.getfield 132, 3) := by decide +kernel
theorem dX10_takeClause_111 : decode cX10_takeClause 111 = .ok (.bipush 8, 2) := by decide +kernel
theorem dX10_takeClause_113 : decode cX10_takeClause 113 = .ok (.if_icmp .ne 7, 3) := by decide +kernel
theorem dX10_takeClause_116 : decode cX10_takeClause 116 = .ok (.iconst 1, 1) := by decide +kernel
theorem dX10_takeClause_117 : decode cX10_takeClause 117 = .ok (.goto 4, 3) := by decide +kernel
theorem dX10_takeClause_120 : decode cX10_takeClause 120 = .ok (.iconst 0, 1) := by decide +kernel
theorem dX10_takeClause_121 : decode cX10_takeClause 121 = .ok (.istore_n 3, 1) := by decide +kernel
theorem dX10_takeClause_122 : decode cX10_takeClause 122 = .ok (.iload_n 3, 1) := by decide +kernel
theorem dX10_takeClause_123 : decode cX10_takeClause 123 = .ok (.ifCond .eq 13, 3) := by decide +kernel
theorem dX10_takeClause_126 : decode cX10_takeClause 126 = .ok (.aload_n 0, 1) := by decide +kernel
theorem dX10_takeClause_127 : decode cX10_takeClause 127 = .ok (.iconst 3, 1) := by decide +kernel
theorem dX10_takeClause_128 : decode cX10_takeClause 128 = .ok (.aload_n 0, 1) := by decide +kernel
theorem dX10_takeClause_129 : decode cX10_takeClause 129 = .ok (.getfield 101, 3) := by decide +kernel
theorem dX10_takeClause_132 : decode cX10_takeClause 132 = .ok (.invokevirtual 112, 3) := by decide +kernel
theorem dX10_takeClause_135 : decode cX10_takeClause 135 = .ok (.ireturn, 1) := by decide +kernel
theorem dX10_takeClause_136 : decode cX10_takeClause 136 = .ok (.aload_n 0, 1) := by decide +kernel
theorem dX10_takeClause_137 : decode cX10_takeClause 137 = .ok (.dup, 1) := by decide +kernel
theorem dX10_takeClause_138 : decode cX10_takeClause 138 = .ok (.getfield 101, 3) := by decide +kernel
theorem dX10_takeClause_141 : decode cX10_takeClause 141 = .ok (.iconst 1, 1) := by decide +kernel
theorem dX10_takeClause_142 : decode cX10_takeClause 142 = .ok (.iadd, 1) := by decide +kernel
theorem dX10_takeClause_143 : decode cX10_takeClause 143 = .ok (.putfield 101, 3) := by decide +kernel
theorem dX10_takeClause_146 : decode cX10_takeClause 146 = .ok (.iload_n 2, 1) := by decide +kernel
theorem dX10_takeClause_147 : decode cX10_takeClause 147 = .ok (.ifCond .ne 10, 3) := by decide +kernel
theorem dX10_takeClause_150 : decode cX10_takeClause 150 = .ok (.aload_n 0, 1) := by decide +kernel
theorem dX10_takeClause_151 : decode cX10_takeClause 151 = .ok (.invokevirtual 135, 3) := by decide +kernel
theorem dX10_takeClause_154 : decode cX10_takeClause 154 = .ok (.goto 19, 3) := by decide +kernel
theorem dX10_takeClause_157 : decode cX10_takeClause 157 = .ok (.iload_n 2, 1) := by decide +kernel
theorem dX10_takeClause_158 : decode cX10_takeClause 158 = .ok (.iconst 1, 1) := by decide +kernel
theorem dX10_takeClause_159 : decode cX10_takeClause 159 = .ok (.if_icmp .ne 10, 3) := by decide +kernel
theorem dX10_takeClause_162 : decode cX10_takeClause 162 = .ok (.aload_n 0, 1) := by decide +kernel
theorem dX10_takeClause_163 : decode cX10_takeClause 163 = .ok (.invokevirtual 138, 3) := by decide +kernel
theorem dX10_takeClause_166 : decode cX10_takeClause 166 = .ok (.goto 7, 3) := by decide +kernel
theorem dX10_takeClause_169 : decode cX10_takeClause 169 = .ok (.aload_n 0, 1) := by decide +kernel
theorem dX10_takeClause_170 : decode cX10_takeClause 170 = .ok (.invokevirtual 141, 3) := by decide +kernel
theorem dX10_takeClause_173 : decode cX10_takeClause 173 = .ok (.istore 4, 2) := by decide +kernel
theorem dX10_takeClause_175 : decode cX10_takeClause 175 = .ok (.iload 4, 2) := by decide +kernel
theorem dX10_takeClause_177 : decode cX10_takeClause 177 = .ok (.ifCond .ne 22, 3) := by decide +kernel
theorem dX10_takeClause_180 : decode cX10_takeClause 180 = .ok (.aload_n 0, 1) := by decide +kernel
theorem dX10_takeClause_181 : decode cX10_takeClause 181 = .ok (.invokevirtual 104, 3) := by decide +kernel
theorem dX10_takeClause_184 : decode cX10_takeClause 184 = .ok (.bipush 59, 2) := by decide +kernel
theorem dX10_takeClause_186 : decode cX10_takeClause 186 = .ok (.if_icmp .eq 13, 3) := by decide +kernel
theorem dX10_takeClause_189 : decode cX10_takeClause 189 = .ok (.aload_n 0, 1) := by decide +kernel
theorem dX10_takeClause_190 : decode cX10_takeClause 190 = .ok (.iconst 1, 1) := by decide +kernel
theorem dX10_takeClause_191 : decode cX10_takeClause 191 = .ok (.aload_n 0, 1) := by decide +kernel
theorem dX10_takeClause_192 : decode cX10_takeClause 192 = .ok (.getfield 101, 3) := by decide +kernel
theorem dX10_takeClause_195 : decode cX10_takeClause 195 = .ok (.invokevirtual 112, 3) := by decide +kernel
theorem dX10_takeClause_198 : decode cX10_takeClause 198 = .ok (.ireturn, 1) := by decide +kernel
theorem dX10_takeClause_199 : decode cX10_takeClause 199 = .ok (.aload_n 0, 1) := by decide +kernel
theorem dX10_takeClause_200 : decode cX10_takeClause 200 = .ok (.dup, 1) := by decide +kernel
theorem dX10_takeClause_201 : decode cX10_takeClause 201 = .ok (.getfield 101, 3) := by decide +kernel
theorem dX10_takeClause_204 : decode cX10_takeClause 204 = .ok (.iconst 1, 1) := by decide +kernel
theorem dX10_takeClause_205 : decode cX10_takeClause 205 = .ok (.iadd, 1) := by decide +kernel
theorem dX10_takeClause_206 : decode cX10_takeClause 206 = .ok (.putfield 101, 3) := by decide +kernel
theorem dX10_takeClause_209 : decode cX10_takeClause 209 = .ok (.iload 4, 2) := by decide +kernel
theorem dX10_takeClause_211 : decode cX10_takeClause 211 = .ok (.ireturn, 1) := by decide +kernel
theorem dX10_takeRead_0 : decode cX10_takeRead 0 = .ok (.aload_n 0, 1) := by decide +kernel
theorem dX10_takeRead_1 : decode cX10_takeRead 1 = .ok (.aload_n 0, 1) := by decide +kernel
theorem dX10_takeRead_2 : decode cX10_takeRead 2 = .ok (.getfield 32, 3) := by decide +kernel
theorem dX10_takeRead_5 : decode cX10_takeRead 5 = .ok (.iconst 0, 1) := by decide +kernel
theorem dX10_takeRead_6 : decode cX10_takeRead 6 = .ok (.iaload, 1) := by decide +kernel
theorem dX10_takeRead_7 : decode cX10_takeRead 7 = .ok (.putfield 81, 3) := by decide +kernel
theorem dX10_takeRead_10 : decode cX10_takeRead 10 = .ok (.aload_n 0, 1) := by decide +kernel
theorem dX10_takeRead_11 : decode cX10_takeRead 11 = .ok (.aload_n 0, 1) := by decide +kernel
theorem dX10_takeRead_12 : decode cX10_takeRead 12 = .ok (.getfield 32, 3) := by decide +kernel
theorem dX10_takeRead_15 : decode cX10_takeRead 15 = .ok (.iconst 1, 1) := by decide +kernel
theorem dX10_takeRead_16 : decode cX10_takeRead 16 = .ok (.iaload, 1) := by decide +kernel
theorem dX10_takeRead_17 : decode cX10_takeRead 17 = .ok (.putfield 144, 3) := by decide +kernel
theorem dX10_takeRead_20 : decode cX10_takeRead 20 = .ok (.aload_n 0, 1) := by decide +kernel
theorem dX10_takeRead_21 : decode cX10_takeRead 21 = .ok (.aload_n 0, 1) := by decide +kernel
theorem dX10_takeRead_22 : decode cX10_takeRead 22 = .ok (.getfield 32, 3) := by decide +kernel
theorem dX10_takeRead_25 : decode cX10_takeRead 25 = .ok (.iconst 2, 1) := by decide +kernel
theorem dX10_takeRead_26 : decode cX10_takeRead 26 = .ok (.iaload, 1) := by decide +kernel
theorem dX10_takeRead_27 : decode cX10_takeRead 27 = .ok (.putfield 147, 3) := by decide +kernel
theorem dX10_takeRead_30 : decode cX10_takeRead 30 = .ok (.aload_n 0, 1) := by decide +kernel
theorem dX10_takeRead_31 : decode cX10_takeRead 31 = .ok (.aload_n 0, 1) := by decide +kernel
theorem dX10_takeRead_32 : decode cX10_takeRead 32 = .ok (.getfield 32, 3) := by decide +kernel
theorem dX10_takeRead_35 : decode cX10_takeRead 35 = .ok (.iconst 3, 1) := by decide +kernel
theorem dX10_takeRead_36 : decode cX10_takeRead 36 = .ok (.iaload, 1) := by decide +kernel
theorem dX10_takeRead_37 : decode cX10_takeRead 37 = .ok (.putfield 150, 3) := by decide +kernel
theorem dX10_takeRead_40 : decode cX10_takeRead 40 = .ok (.aload_n 0, 1) := by decide +kernel
theorem dX10_takeRead_41 : decode cX10_takeRead 41 = .ok (.aload_n 0, 1) := by decide +kernel
theorem dX10_takeRead_42 : decode cX10_takeRead 42 = .ok (.getfield 129, 3) := by decide +kernel
theorem dX10_takeRead_45 : decode cX10_takeRead 45 = .ok (.putfield 84, 3) := by decide +kernel
theorem dX10_takeRead_48 : decode cX10_takeRead 48 = .ok (.aload_n 0, 1) := by decide +kernel
theorem dX10_takeRead_49 : decode cX10_takeRead 49 = .ok (.aload_n 0, 1) := by decide +kernel
theorem dX10_takeRead_50 : decode cX10_takeRead 50 = .ok (.getfield 132, 3) := by decide +kernel
theorem dX10_takeRead_53 : decode cX10_takeRead 53 = .ok (.putfield 91, 3) := by decide +kernel
theorem dX10_takeRead_56 : decode cX10_takeRead 56 = .ok (.iconst 0, 1) := by decide +kernel
theorem dX10_takeRead_57 : decode cX10_takeRead 57 = .ok (.istore_n 1, 1) := by decide +kernel
theorem dX10_takeRead_58 : decode cX10_takeRead 58 = .ok (.iload_n 1, 1) := by decide +kernel
theorem dX10_takeRead_59 : decode cX10_takeRead 59 = .ok (.bipush 19, 2) := by decide +kernel
theorem dX10_takeRead_61 : decode cX10_takeRead 61 = .ok (.if_icmp .ge 16, 3) := by decide +kernel
theorem dX10_takeRead_64 : decode cX10_takeRead 64 = .ok (.aload_n 0, 1) := by decide +kernel
theorem dX10_takeRead_65 : decode cX10_takeRead 65 = .ok (.getfield 22, 3) := by decide +kernel
theorem dX10_takeRead_68 : decode cX10_takeRead 68 = .ok (.iload_n 1, 1) := by decide +kernel
theorem dX10_takeRead_69 : decode cX10_takeRead 69 = .ok (.iconst 0, 1) := by decide +kernel
theorem dX10_takeRead_70 : decode cX10_takeRead 70 = .ok (.iastore, 1) := by decide +kernel
theorem dX10_takeRead_71 : decode cX10_takeRead 71 = .ok (.iinc 1 1, 3) := by decide +kernel
theorem dX10_takeRead_74 : decode cX10_takeRead 74 = .ok (.goto (-16), 3) := by decide +kernel
theorem dX10_takeRead_77 : decode cX10_takeRead 77 = .ok (.iconst 0, 1) := by decide +kernel
theorem dX10_takeRead_78 : decode cX10_takeRead 78 = .ok (.istore_n 1, 1) := by decide +kernel
theorem dX10_takeRead_79 : decode cX10_takeRead 79 = .ok (.iload_n 1, 1) := by decide +kernel
theorem dX10_takeRead_80 : decode cX10_takeRead 80 = .ok (.aload_n 0, 1) := by decide +kernel
theorem dX10_takeRead_81 : decode cX10_takeRead 81 = .ok (.getfield 84, 3) := by decide +kernel
theorem dX10_takeRead_84 : decode cX10_takeRead 84 = .ok (.if_icmp .ge 57, 3) := by decide +kernel
theorem dX10_takeRead_87 : decode cX10_takeRead 87 = .ok (.aload_n 0, 1) := by decide +kernel
theorem dX10_takeRead_88 : decode cX10_takeRead 88 = .ok (.getfield 22, 3) := by decide +kernel
theorem dX10_takeRead_91 : decode cX10_takeRead 91 = .ok (.iload_n 1, 1) := by decide +kernel
theorem dX10_takeRead_92 : decode cX10_takeRead 92 = .ok (.aload_n 0, 1) := by decide +kernel
theorem dX10_takeRead_93 : decode cX10_takeRead 93 = .ok (.getfield 35, 3) := by decide +kernel
theorem dX10_takeRead_96 : decode cX10_takeRead 96 = .ok (.iload_n 1, 1) := by decide +kernel
theorem dX10_takeRead_97 : decode cX10_takeRead 97 = .ok (.iaload, 1) := by decide +kernel
theorem dX10_takeRead_98 : decode cX10_takeRead 98 = .ok (.iastore, 1) := by decide +kernel
theorem dX10_takeRead_99 : decode cX10_takeRead 99 = .ok (.aload_n 0, 1) := by decide +kernel
theorem dX10_takeRead_100 : decode cX10_takeRead 100 = .ok (.getfield 7, 3) := by decide +kernel
theorem dX10_takeRead_103 : decode cX10_takeRead 103 = .ok (.iload_n 1, 1) := by decide +kernel
theorem dX10_takeRead_104 : decode cX10_takeRead 104 = .ok (.aload_n 0, 1) := by decide +kernel
theorem dX10_takeRead_105 : decode cX10_takeRead 105 = .ok (.getfield 38, 3) := by decide +kernel
theorem dX10_takeRead_108 : decode cX10_takeRead 108 = .ok (.iload_n 1, 1) := by decide +kernel
theorem dX10_takeRead_109 : decode cX10_takeRead 109 = .ok (.iaload, 1) := by decide +kernel
theorem dX10_takeRead_110 : decode cX10_takeRead 110 = .ok (.iastore, 1) := by decide +kernel
theorem dX10_takeRead_111 : decode cX10_takeRead 111 = .ok (.aload_n 0, 1) := by decide +kernel
theorem dX10_takeRead_112 : decode cX10_takeRead 112 = .ok (.getfield 13, 3) := by decide +kernel
theorem dX10_takeRead_115 : decode cX10_takeRead 115 = .ok (.iload_n 1, 1) := by decide +kernel
theorem dX10_takeRead_116 : decode cX10_takeRead 116 = .ok (.aload_n 0, 1) := by decide +kernel
theorem dX10_takeRead_117 : decode cX10_takeRead 117 = .ok (.getfield 41, 3) := by decide +kernel
theorem dX10_takeRead_120 : decode cX10_takeRead 120 = .ok (.iload_n 1, 1) := by decide +kernel
theorem dX10_takeRead_121 : decode cX10_takeRead 121 = .ok (.iaload, 1) := by decide +kernel
theorem dX10_takeRead_122 : decode cX10_takeRead 122 = .ok (.iastore, 1) := by decide +kernel
theorem dX10_takeRead_123 : decode cX10_takeRead 123 = .ok (.aload_n 0, 1) := by decide +kernel
theorem dX10_takeRead_124 : decode cX10_takeRead 124 = .ok (.getfield 16, 3) := by decide +kernel
theorem dX10_takeRead_127 : decode cX10_takeRead 127 = .ok (.iload_n 1, 1) := by decide +kernel
theorem dX10_takeRead_128 : decode cX10_takeRead 128 = .ok (.aload_n 0, 1) := by decide +kernel
theorem dX10_takeRead_129 : decode cX10_takeRead 129 = .ok (.getfield 44, 3) := by decide +kernel
theorem dX10_takeRead_132 : decode cX10_takeRead 132 = .ok (.iload_n 1, 1) := by decide +kernel
theorem dX10_takeRead_133 : decode cX10_takeRead 133 = .ok (.iaload, 1) := by decide +kernel
theorem dX10_takeRead_134 : decode cX10_takeRead 134 = .ok (.iastore, 1) := by decide +kernel
theorem dX10_takeRead_135 : decode cX10_takeRead 135 = .ok (.iinc 1 1, 3) := by decide +kernel
theorem dX10_takeRead_138 : decode cX10_takeRead 138 = .ok (.goto (-59), 3) := by decide +kernel
theorem dX10_takeRead_141 : decode cX10_takeRead 141 = .ok (.iconst 0, 1) := by decide +kernel
theorem dX10_takeRead_142 : decode cX10_takeRead 142 = .ok (.istore_n 1, 1) := by decide +kernel
theorem dX10_takeRead_143 : decode cX10_takeRead 143 = .ok (.iload_n 1, 1) := by decide +kernel
theorem dX10_takeRead_144 : decode cX10_takeRead 144 = .ok (.aload_n 0, 1) := by decide +kernel
theorem dX10_takeRead_145 : decode cX10_takeRead 145 = .ok (.getfield 91, 3) := by decide +kernel
theorem dX10_takeRead_148 : decode cX10_takeRead 148 = .ok (.if_icmp .ge 21, 3) := by decide +kernel
theorem dX10_takeRead_151 : decode cX10_takeRead 151 = .ok (.aload_n 0, 1) := by decide +kernel
theorem dX10_takeRead_152 : decode cX10_takeRead 152 = .ok (.getfield 19, 3) := by decide +kernel
theorem dX10_takeRead_155 : decode cX10_takeRead 155 = .ok (.iload_n 1, 1) := by decide +kernel
theorem dX10_takeRead_156 : decode cX10_takeRead 156 = .ok (.aload_n 0, 1) := by decide +kernel
theorem dX10_takeRead_157 : decode cX10_takeRead 157 = .ok (.getfield 47, 3) := by decide +kernel
theorem dX10_takeRead_160 : decode cX10_takeRead 160 = .ok (.iload_n 1, 1) := by decide +kernel
theorem dX10_takeRead_161 : decode cX10_takeRead 161 = .ok (.iaload, 1) := by decide +kernel
theorem dX10_takeRead_162 : decode cX10_takeRead 162 = .ok (.iastore, 1) := by decide +kernel
theorem dX10_takeRead_163 : decode cX10_takeRead 163 = .ok (.iinc 1 1, 3) := by decide +kernel
theorem dX10_takeRead_166 : decode cX10_takeRead 166 = .ok (.goto (-23), 3) := by decide +kernel
theorem dX10_takeRead_169 : decode cX10_takeRead 169 = .ok (.return_, 1) := by decide +kernel
theorem dX10_contract_0 : decode cX10_contract 0 = .ok (.aload_n 0, 1) := by decide +kernel
theorem dX10_contract_1 : decode cX10_contract 1 = .ok (.iconst (-1), 1) := by decide +kernel
theorem dX10_contract_2 : decode cX10_contract 2 = .ok (.putfield 28, 3) := by decide +kernel
theorem dX10_contract_5 : decode cX10_contract 5 = .ok (.aload_n 0, 1) := by decide +kernel
theorem dX10_contract_6 : decode cX10_contract 6 = .ok (.iconst 0, 1) := by decide +kernel
theorem dX10_contract_7 : decode cX10_contract 7 = .ok (.putfield 101, 3) := by decide +kernel
theorem dX10_contract_10 : decode cX10_contract 10 = .ok (.iconst 0, 1) := by decide +kernel
theorem dX10_contract_11 : decode cX10_contract 11 = .ok (.istore_n 1, 1) := by decide +kernel
theorem dX10_contract_12 : decode cX10_contract 12 = .ok (.iload_n 1, 1) := by decide +kernel
theorem dX10_contract_13 : decode cX10_contract 13 = .ok (.iconst 4, 1) := by decide +kernel
theorem dX10_contract_14 : decode cX10_contract 14 = .ok (.if_icmp .ge 16, 3) := by decide +kernel
theorem dX10_contract_17 : decode cX10_contract 17 = .ok (.aload_n 0, 1) := by decide +kernel
theorem dX10_contract_18 : decode cX10_contract 18 = .ok (.getfield 32, 3) := by decide +kernel
theorem dX10_contract_21 : decode cX10_contract 21 = .ok (.iload_n 1, 1) := by decide +kernel
theorem dX10_contract_22 : decode cX10_contract 22 = .ok (.iconst 0, 1) := by decide +kernel
theorem dX10_contract_23 : decode cX10_contract 23 = .ok (.iastore, 1) := by decide +kernel
theorem dX10_contract_24 : decode cX10_contract 24 = .ok (.iinc 1 1, 3) := by decide +kernel
theorem dX10_contract_27 : decode cX10_contract 27 = .ok (.goto (-15), 3) := by decide +kernel
theorem dX10_contract_30 : decode cX10_contract 30 = .ok (.aload_n 0, 1) := by decide +kernel
theorem dX10_contract_31 : decode cX10_contract 31 = .ok (.iconst 0, 1) := by decide +kernel
theorem dX10_contract_32 : decode cX10_contract 32 = .ok (.putfield 129, 3) := by decide +kernel
theorem dX10_contract_35 : decode cX10_contract 35 = .ok (.aload_n 0, 1) := by decide +kernel
theorem dX10_contract_36 : decode cX10_contract 36 = .ok (.iconst 0, 1) := by decide +kernel
theorem dX10_contract_37 : decode cX10_contract 37 = .ok (.putfield 132, 3) := by decide +kernel
theorem dX10_contract_40 : decode cX10_contract 40 = .ok (.iconst 0, 1) := by decide +kernel
theorem dX10_contract_41 : decode cX10_contract 41 = .ok (.istore_n 1, 1) := by decide +kernel
theorem dX10_contract_42 : decode cX10_contract 42 = .ok (.iload_n 1, 1) := by decide +kernel
theorem dX10_contract_43 : decode cX10_contract 43 = .ok (.ifCond .ne 18, 3) := by decide +kernel
theorem dX10_contract_46 : decode cX10_contract 46 = .ok (.aload_n 0, 1) := by decide +kernel
theorem dX10_contract_47 : decode cX10_contract 47 = .ok (.invokevirtual 104, 3) := by decide +kernel
theorem dX10_contract_50 : decode cX10_contract 50 = .ok (.ifCond .lt 11, 3) := by decide +kernel
theorem dX10_contract_53 : decode cX10_contract 53 = .ok (.aload_n 0, 1) := by decide +kernel
theorem dX10_contract_54 : decode cX10_contract 54 = .ok (.invokevirtual 153, 3) := by decide +kernel
theorem dX10_contract_57 : decode cX10_contract 57 = .ok (.istore_n 1, 1) := by decide +kernel
theorem dX10_contract_58 : decode cX10_contract 58 = .ok (.goto (-16), 3) := by decide +kernel
theorem dX10_contract_61 : decode cX10_contract 61 = .ok (.aload_n 0, 1) := by decide +kernel
theorem dX10_contract_62 : decode cX10_contract 62 = .ok (.iconst 0, 1) := by decide +kernel
theorem dX10_contract_63 : decode cX10_contract 63 = .ok (.putfield 97, 3) := by decide +kernel
theorem dX10_contract_66 : decode cX10_contract 66 = .ok (.iload_n 1, 1) := by decide +kernel
theorem dX10_contract_67 : decode cX10_contract 67 = .ok (.ifCond .le 8, 3) := by decide +kernel
theorem dX10_contract_70 : decode cX10_contract 70 = .ok (.bipush (-10), 2) := by decide +kernel
theorem dX10_contract_72 : decode cX10_contract 72 = .ok (.iload_n 1, 1) := by decide +kernel
theorem dX10_contract_73 : decode cX10_contract 73 = .ok (.isub, 1) := by decide +kernel
theorem dX10_contract_74 : decode cX10_contract 74 = .ok (.ireturn, 1) := by decide +kernel
theorem dX10_contract_75 : decode cX10_contract 75 = .ok (.aload_n 0, 1) := by decide +kernel
theorem dX10_contract_76 : decode cX10_contract 76 = .ok (.invokevirtual 156, 3) := by decide +kernel
theorem dX10_contract_79 : decode cX10_contract 79 = .ok (.aload_n 0, 1) := by decide +kernel
theorem dX10_contract_80 : decode cX10_contract 80 = .ok (.iconst 0, 1) := by decide +kernel
theorem dX10_contract_81 : decode cX10_contract 81 = .ok (.putfield 159, 3) := by decide +kernel
theorem dX10_contract_84 : decode cX10_contract 84 = .ok (.aload_n 0, 1) := by decide +kernel
theorem dX10_contract_85 : decode cX10_contract 85 = .ok (.iconst 0, 1) := by decide +kernel
theorem dX10_contract_86 : decode cX10_contract 86 = .ok (.putfield 162, 3) := by decide +kernel
theorem dX10_contract_89 : decode cX10_contract 89 = .ok (.aload_n 0, 1) := by decide +kernel
theorem dX10_contract_90 : decode cX10_contract 90 = .ok (.iconst 0, 1) := by decide +kernel
theorem dX10_contract_91 : decode cX10_contract 91 = .ok (.putfield 165, 3) := by decide +kernel
theorem dX10_contract_94 : decode cX10_contract 94 = .ok (.aload_n 0, 1) := by decide +kernel
theorem dX10_contract_95 : decode cX10_contract 95 = .ok (.getfield 78, 3) := by decide +kernel
theorem dX10_contract_98 : decode cX10_contract 98 = .ok (.iconst 0, 1) := by decide +kernel
theorem dX10_contract_99 : decode cX10_contract 99 = .ok (.iconst 0, 1) := by decide +kernel
theorem dX10_contract_100 : decode cX10_contract 100 = .ok (.bastore, 1) := by decide +kernel
theorem dX10_contract_101 : decode cX10_contract 101 = .ok (.aload_n 0, 1) := by decide +kernel
theorem dX10_contract_102 : decode cX10_contract 102 = .ok (.getfield 78, 3) := by decide +kernel
theorem dX10_contract_105 : decode cX10_contract 105 = .ok (.iconst 1, 1) := by decide +kernel
theorem dX10_contract_106 : decode cX10_contract 106 = .ok (.iconst 0, 1) := by decide +kernel
theorem dX10_contract_107 : decode cX10_contract 107 = .ok (.bastore, 1) := by decide +kernel
theorem dX10_contract_108 : decode cX10_contract 108 = .ok (.aload_n 0, 1) := by decide +kernel
theorem dX10_contract_109 : decode cX10_contract 109 = .ok (.getfield 84, 3) := by decide +kernel
theorem dX10_contract_112 : decode cX10_contract 112 = .ok (.ireturn, 1) := by decide +kernel
theorem dX10_fault_0 : decode cX10_fault 0 = .ok (.aload_n 0, 1) := by decide +kernel
theorem dX10_fault_1 : decode cX10_fault 1 = .ok (.getfield 28, 3) := by decide +kernel
theorem dX10_fault_4 : decode cX10_fault 4 = .ok (.ireturn, 1) := by decide +kernel
theorem dX10_told_0 : decode cX10_told 0 = .ok (.iload_n 1, 1) := by decide +kernel
theorem dX10_told_1 : decode cX10_told 1 = .ok (.tableswitch 189 0 16 #[83, 88, 93, 98, 103, 108, 113, 118, 126, 134, 142, 150, 158, 166, 174, 179, 184], 83) := by decide +kernel
theorem dX10_told_84 : decode cX10_told 84 = .ok (.aload_n 0, 1) := by decide +kernel
theorem dX10_told_85 : decode cX10_told 85 = .ok (.getfield 81, 3) := by decide +kernel
theorem dX10_told_88 : decode cX10_told 88 = .ok (.ireturn, 1) := by decide +kernel
theorem dX10_told_89 : decode cX10_told 89 = .ok (.aload_n 0, 1) := by decide +kernel
theorem dX10_told_90 : decode cX10_told 90 = .ok (.getfield 144, 3) := by decide +kernel
theorem dX10_told_93 : decode cX10_told 93 = .ok (.ireturn, 1) := by decide +kernel
theorem dX10_told_94 : decode cX10_told 94 = .ok (.aload_n 0, 1) := by decide +kernel
theorem dX10_told_95 : decode cX10_told 95 = .ok (.getfield 147, 3) := by decide +kernel
theorem dX10_told_98 : decode cX10_told 98 = .ok (.ireturn, 1) := by decide +kernel
theorem dX10_told_99 : decode cX10_told 99 = .ok (.aload_n 0, 1) := by decide +kernel
theorem dX10_told_100 : decode cX10_told 100 = .ok (.getfield 150, 3) := by decide +kernel
theorem dX10_told_103 : decode cX10_told 103 = .ok (.ireturn, 1) := by decide +kernel
theorem dX10_told_104 : decode cX10_told 104 = .ok (.aload_n 0, 1) := by decide +kernel
theorem dX10_told_105 : decode cX10_told 105 = .ok (.getfield 84, 3) := by decide +kernel
theorem dX10_told_108 : decode cX10_told 108 = .ok (.ireturn, 1) := by decide +kernel
theorem dX10_told_109 : decode cX10_told 109 = .ok (.aload_n 0, 1) := by decide +kernel
theorem dX10_told_110 : decode cX10_told 110 = .ok (.getfield 91, 3) := by decide +kernel
theorem dX10_told_113 : decode cX10_told 113 = .ok (.ireturn, 1) := by decide +kernel
theorem dX10_told_114 : decode cX10_told 114 = .ok (.aload_n 0, 1) := by decide +kernel
theorem dX10_told_115 : decode cX10_told 115 = .ok (.getfield 97, 3) := by decide +kernel
theorem dX10_told_118 : decode cX10_told 118 = .ok (.ireturn, 1) := by decide +kernel
theorem dX10_told_119 : decode cX10_told 119 = .ok (.aload_n 0, 1) := by decide +kernel
theorem dX10_told_120 : decode cX10_told 120 = .ok (.getfield 22, 3) := by decide +kernel
theorem dX10_told_123 : decode cX10_told 123 = .ok (.bipush 12, 2) := by decide +kernel
theorem dX10_told_125 : decode cX10_told 125 = .ok (.iaload, 1) := by decide +kernel
theorem dX10_told_126 : decode cX10_told 126 = .ok (.ireturn, 1) := by decide +kernel
theorem dX10_told_127 : decode cX10_told 127 = .ok (.aload_n 0, 1) := by decide +kernel
theorem dX10_told_128 : decode cX10_told 128 = .ok (.getfield 22, 3) := by decide +kernel
theorem dX10_told_131 : decode cX10_told 131 = .ok (.bipush 13, 2) := by decide +kernel
theorem dX10_told_133 : decode cX10_told 133 = .ok (.iaload, 1) := by decide +kernel
theorem dX10_told_134 : decode cX10_told 134 = .ok (.ireturn, 1) := by decide +kernel
theorem dX10_told_135 : decode cX10_told 135 = .ok (.aload_n 0, 1) := by decide +kernel
theorem dX10_told_136 : decode cX10_told 136 = .ok (.getfield 22, 3) := by decide +kernel
theorem dX10_told_139 : decode cX10_told 139 = .ok (.bipush 14, 2) := by decide +kernel
theorem dX10_told_141 : decode cX10_told 141 = .ok (.iaload, 1) := by decide +kernel
theorem dX10_told_142 : decode cX10_told 142 = .ok (.ireturn, 1) := by decide +kernel
theorem dX10_told_143 : decode cX10_told 143 = .ok (.aload_n 0, 1) := by decide +kernel
theorem dX10_told_144 : decode cX10_told 144 = .ok (.getfield 22, 3) := by decide +kernel
theorem dX10_told_147 : decode cX10_told 147 = .ok (.bipush 15, 2) := by decide +kernel
theorem dX10_told_149 : decode cX10_told 149 = .ok (.iaload, 1) := by decide +kernel
theorem dX10_told_150 : decode cX10_told 150 = .ok (.ireturn, 1) := by decide +kernel
theorem dX10_told_151 : decode cX10_told 151 = .ok (.aload_n 0, 1) := by decide +kernel
theorem dX10_told_152 : decode cX10_told 152 = .ok (.getfield 22, 3) := by decide +kernel
theorem dX10_told_155 : decode cX10_told 155 = .ok (.bipush 16, 2) := by decide +kernel
theorem dX10_told_157 : decode cX10_told 157 = .ok (.iaload, 1) := by decide +kernel
theorem dX10_told_158 : decode cX10_told 158 = .ok (.ireturn, 1) := by decide +kernel
theorem dX10_told_159 : decode cX10_told 159 = .ok (.aload_n 0, 1) := by decide +kernel
theorem dX10_told_160 : decode cX10_told 160 = .ok (.getfield 22, 3) := by decide +kernel
theorem dX10_told_163 : decode cX10_told 163 = .ok (.bipush 17, 2) := by decide +kernel
theorem dX10_told_165 : decode cX10_told 165 = .ok (.iaload, 1) := by decide +kernel
theorem dX10_told_166 : decode cX10_told 166 = .ok (.ireturn, 1) := by decide +kernel
theorem dX10_told_167 : decode cX10_told 167 = .ok (.aload_n 0, 1) := by decide +kernel
theorem dX10_told_168 : decode cX10_told 168 = .ok (.getfield 22, 3) := by decide +kernel
theorem dX10_told_171 : decode cX10_told 171 = .ok (.bipush 18, 2) := by decide +kernel
theorem dX10_told_173 : decode cX10_told 173 = .ok (.iaload, 1) := by decide +kernel
theorem dX10_told_174 : decode cX10_told 174 = .ok (.ireturn, 1) := by decide +kernel
theorem dX10_told_175 : decode cX10_told 175 = .ok (.aload_n 0, 1) := by decide +kernel
theorem dX10_told_176 : decode cX10_told 176 = .ok (.getfield 159, 3) := by decide +kernel
theorem dX10_told_179 : decode cX10_told 179 = .ok (.ireturn, 1) := by decide +kernel
theorem dX10_told_180 : decode cX10_told 180 = .ok (.aload_n 0, 1) := by decide +kernel
theorem dX10_told_181 : decode cX10_told 181 = .ok (.getfield 162, 3) := by decide +kernel
theorem dX10_told_184 : decode cX10_told 184 = .ok (.ireturn, 1) := by decide +kernel
theorem dX10_told_185 : decode cX10_told 185 = .ok (.aload_n 0, 1) := by decide +kernel
theorem dX10_told_186 : decode cX10_told 186 = .ok (.getfield 165, 3) := by decide +kernel
theorem dX10_told_189 : decode cX10_told 189 = .ok (.ireturn, 1) := by decide +kernel
theorem dX10_told_190 : decode cX10_told 190 = .ok (.ldc 96, 2) := by decide +kernel
theorem dX10_told_192 : decode cX10_told 192 = .ok (.ireturn, 1) := by decide +kernel
theorem dX10_watcher_0 : decode cX10_watcher 0 = .ok (.aload_n 0, 1) := by decide +kernel
theorem dX10_watcher_1 : decode cX10_watcher 1 = .ok (.iload_n 1, 1) := by decide +kernel
theorem dX10_watcher_2 : decode cX10_watcher 2 = .ok (.invokevirtual 168, 3) := by decide +kernel
theorem dX10_watcher_5 : decode cX10_watcher 5 = .ok (.ifCond .ne 6, 3) := by decide +kernel
theorem dX10_watcher_8 : decode cX10_watcher 8 = .ok (.ldc 172, 2) := by decide +kernel
theorem dX10_watcher_10 : decode cX10_watcher 10 = .ok (.ireturn, 1) := by decide +kernel
theorem dX10_watcher_11 : decode cX10_watcher 11 = .ok (.iload_n 2, 1) := by decide +kernel
theorem dX10_watcher_12 : decode cX10_watcher 12 = .ok (.tableswitch 74 0 4 #[36, 43, 50, 57, 64], 36) := by decide +kernel
theorem dX10_watcher_48 : decode cX10_watcher 48 = .ok (.aload_n 0, 1) := by decide +kernel
theorem dX10_watcher_49 : decode cX10_watcher 49 = .ok (.getfield 22, 3) := by decide +kernel
theorem dX10_watcher_52 : decode cX10_watcher 52 = .ok (.iload_n 1, 1) := by decide +kernel
theorem dX10_watcher_53 : decode cX10_watcher 53 = .ok (.iaload, 1) := by decide +kernel
theorem dX10_watcher_54 : decode cX10_watcher 54 = .ok (.ireturn, 1) := by decide +kernel
theorem dX10_watcher_55 : decode cX10_watcher 55 = .ok (.aload_n 0, 1) := by decide +kernel
theorem dX10_watcher_56 : decode cX10_watcher 56 = .ok (.getfield 7, 3) := by decide +kernel
theorem dX10_watcher_59 : decode cX10_watcher 59 = .ok (.iload_n 1, 1) := by decide +kernel
theorem dX10_watcher_60 : decode cX10_watcher 60 = .ok (.iaload, 1) := by decide +kernel
theorem dX10_watcher_61 : decode cX10_watcher 61 = .ok (.ireturn, 1) := by decide +kernel
theorem dX10_watcher_62 : decode cX10_watcher 62 = .ok (.aload_n 0, 1) := by decide +kernel
theorem dX10_watcher_63 : decode cX10_watcher 63 = .ok (.getfield 13, 3) := by decide +kernel
theorem dX10_watcher_66 : decode cX10_watcher 66 = .ok (.iload_n 1, 1) := by decide +kernel
theorem dX10_watcher_67 : decode cX10_watcher 67 = .ok (.iaload, 1) := by decide +kernel
theorem dX10_watcher_68 : decode cX10_watcher 68 = .ok (.ireturn, 1) := by decide +kernel
theorem dX10_watcher_69 : decode cX10_watcher 69 = .ok (.aload_n 0, 1) := by decide +kernel
theorem dX10_watcher_70 : decode cX10_watcher 70 = .ok (.getfield 16, 3) := by decide +kernel
theorem dX10_watcher_73 : decode cX10_watcher 73 = .ok (.iload_n 1, 1) := by decide +kernel
theorem dX10_watcher_74 : decode cX10_watcher 74 = .ok (.iaload, 1) := by decide +kernel
theorem dX10_watcher_75 : decode cX10_watcher 75 = .ok (.ireturn, 1) := by decide +kernel
theorem dX10_watcher_76 : decode cX10_watcher 76 = .ok (.aload_n 0, 1) := by decide +kernel
theorem dX10_watcher_77 : decode cX10_watcher 77 = .ok (.getfield 22, 3) := by decide +kernel
theorem dX10_watcher_80 : decode cX10_watcher 80 = .ok (.bipush 6, 2) := by decide +kernel
theorem dX10_watcher_82 : decode cX10_watcher 82 = .ok (.iload_n 1, 1) := by decide +kernel
theorem dX10_watcher_83 : decode cX10_watcher 83 = .ok (.iadd, 1) := by decide +kernel
theorem dX10_watcher_84 : decode cX10_watcher 84 = .ok (.iaload, 1) := by decide +kernel
theorem dX10_watcher_85 : decode cX10_watcher 85 = .ok (.ireturn, 1) := by decide +kernel
theorem dX10_watcher_86 : decode cX10_watcher 86 = .ok (.ldc 96, 2) := by decide +kernel
theorem dX10_watcher_88 : decode cX10_watcher 88 = .ok (.ireturn, 1) := by decide +kernel
theorem dX10_sleeper_0 : decode cX10_sleeper 0 = .ok (.aload_n 0, 1) := by decide +kernel
theorem dX10_sleeper_1 : decode cX10_sleeper 1 = .ok (.iload_n 1, 1) := by decide +kernel
theorem dX10_sleeper_2 : decode cX10_sleeper 2 = .ok (.invokevirtual 173, 3) := by decide +kernel
theorem dX10_sleeper_5 : decode cX10_sleeper 5 = .ok (.ifCond .eq 12, 3) := by decide +kernel
theorem dX10_sleeper_8 : decode cX10_sleeper 8 = .ok (.aload_n 0, 1) := by decide +kernel
theorem dX10_sleeper_9 : decode cX10_sleeper 9 = .ok (.getfield 19, 3) := by decide +kernel
theorem dX10_sleeper_12 : decode cX10_sleeper 12 = .ok (.iload_n 1, 1) := by decide +kernel
theorem dX10_sleeper_13 : decode cX10_sleeper 13 = .ok (.iaload, 1) := by decide +kernel
theorem dX10_sleeper_14 : decode cX10_sleeper 14 = .ok (.goto 5, 3) := by decide +kernel
theorem dX10_sleeper_17 : decode cX10_sleeper 17 = .ok (.ldc 172, 2) := by decide +kernel
theorem dX10_sleeper_19 : decode cX10_sleeper 19 = .ok (.ireturn, 1) := by decide +kernel
theorem dX10_tire_0 : decode cX10_tire 0 = .ok (.iconst 0, 1) := by decide +kernel
theorem dX10_tire_1 : decode cX10_tire 1 = .ok (.istore_n 3, 1) := by decide +kernel
theorem dX10_tire_2 : decode cX10_tire 2 = .ok (.iconst 0, 1) := by decide +kernel
theorem dX10_tire_3 : decode cX10_tire 3 = .ok (.istore 4, 2) := by decide +kernel
theorem dX10_tire_5 : decode cX10_tire 5 = .ok (.iload 4, 2) := by decide +kernel
theorem dX10_tire_7 : decode cX10_tire 7 = .ok (.aload_n 0, 1) := by decide +kernel
theorem dX10_tire_8 : decode cX10_tire 8 = .ok (.getfield 84, 3) := by decide +kernel
theorem dX10_tire_11 : decode cX10_tire 11 = .ok (.if_icmp .ge 130, 3) := by decide +kernel
theorem dX10_tire_14 : decode cX10_tire 14 = .ok (.iload_n 1, 1) := by decide +kernel
theorem dX10_tire_15 : decode cX10_tire 15 = .ok (.iload 4, 2) := by decide +kernel
theorem dX10_tire_17 : decode cX10_tire 17 = .ok (.invokestatic 176, 3) := by decide +kernel
theorem dX10_tire_20 : decode cX10_tire 20 = .ok (.ifCond .eq 89, 3) := by decide +kernel
theorem dX10_tire_23 : decode cX10_tire 23 = .ok (.iload_n 2, 1) := by decide +kernel
theorem dX10_tire_24 : decode cX10_tire 24 = .ok (.ifCond .eq 22, 3) := by decide +kernel
theorem dX10_tire_27 : decode cX10_tire 27 = .ok (.aload_n 0, 1) := by decide +kernel
theorem dX10_tire_28 : decode cX10_tire 28 = .ok (.getfield 22, 3) := by decide +kernel
theorem dX10_tire_31 : decode cX10_tire 31 = .ok (.iload 4, 2) := by decide +kernel
theorem dX10_tire_33 : decode cX10_tire 33 = .ok (.iaload, 1) := by decide +kernel
theorem dX10_tire_34 : decode cX10_tire 34 = .ok (.aload_n 0, 1) := by decide +kernel
theorem dX10_tire_35 : decode cX10_tire 35 = .ok (.getfield 150, 3) := by decide +kernel
theorem dX10_tire_38 : decode cX10_tire 38 = .ok (.isub, 1) := by decide +kernel
theorem dX10_tire_39 : decode cX10_tire 39 = .ok (.iconst 0, 1) := by decide +kernel
theorem dX10_tire_40 : decode cX10_tire 40 = .ok (.invokestatic 180, 3) := by decide +kernel
theorem dX10_tire_43 : decode cX10_tire 43 = .ok (.goto 10, 3) := by decide +kernel
theorem dX10_tire_46 : decode cX10_tire 46 = .ok (.aload_n 0, 1) := by decide +kernel
theorem dX10_tire_47 : decode cX10_tire 47 = .ok (.getfield 22, 3) := by decide +kernel
theorem dX10_tire_50 : decode cX10_tire 50 = .ok (.iload 4, 2) := by decide +kernel
theorem dX10_tire_52 : decode cX10_tire 52 = .ok (.iaload, 1) := by decide +kernel
theorem dX10_tire_53 : decode cX10_tire 53 = .ok (.istore 5, 2) := by decide +kernel
theorem dX10_tire_55 : decode cX10_tire 55 = .ok (.aload_n 0, 1) := by decide +kernel
theorem dX10_tire_56 : decode cX10_tire 56 = .ok (.getfield 22, 3) := by decide +kernel
theorem dX10_tire_59 : decode cX10_tire 59 = .ok (.iload 4, 2) := by decide +kernel
theorem dX10_tire_61 : decode cX10_tire 61 = .ok (.iload 5, 2) := by decide +kernel
theorem dX10_tire_63 : decode cX10_tire 63 = .ok (.aload_n 0, 1) := by decide +kernel
theorem dX10_tire_64 : decode cX10_tire 64 = .ok (.getfield 7, 3) := by decide +kernel
theorem dX10_tire_67 : decode cX10_tire 67 = .ok (.iload 4, 2) := by decide +kernel
theorem dX10_tire_69 : decode cX10_tire 69 = .ok (.iaload, 1) := by decide +kernel
theorem dX10_tire_70 : decode cX10_tire 70 = .ok (.iadd, 1) := by decide +kernel
theorem dX10_tire_71 : decode cX10_tire 71 = .ok (.sipush 199, 3) := by decide +kernel
theorem dX10_tire_74 : decode cX10_tire 74 = .ok (.invokestatic 183, 3) := by decide +kernel
theorem dX10_tire_77 : decode cX10_tire 77 = .ok (.iastore, 1) := by decide +kernel
theorem dX10_tire_78 : decode cX10_tire 78 = .ok (.iload_n 3, 1) := by decide +kernel
theorem dX10_tire_79 : decode cX10_tire 79 = .ok (.aload_n 0, 1) := by decide +kernel
theorem dX10_tire_80 : decode cX10_tire 80 = .ok (.getfield 22, 3) := by decide +kernel
theorem dX10_tire_83 : decode cX10_tire 83 = .ok (.iload 4, 2) := by decide +kernel
theorem dX10_tire_85 : decode cX10_tire 85 = .ok (.iaload, 1) := by decide +kernel
theorem dX10_tire_86 : decode cX10_tire 86 = .ok (.aload_n 0, 1) := by decide +kernel
theorem dX10_tire_87 : decode cX10_tire 87 = .ok (.getfield 16, 3) := by decide +kernel
theorem dX10_tire_90 : decode cX10_tire 90 = .ok (.iload 4, 2) := by decide +kernel
theorem dX10_tire_92 : decode cX10_tire 92 = .ok (.iaload, 1) := by decide +kernel
theorem dX10_tire_93 : decode cX10_tire 93 = .ok (.if_icmp .le 10, 3) := by decide +kernel
theorem dX10_tire_96 : decode cX10_tire 96 = .ok (.iconst 1, 1) := by decide +kernel
theorem dX10_tire_97 : decode cX10_tire 97 = .ok (.iload 4, 2) := by decide +kernel
theorem dX10_tire_99 : decode cX10_tire 99 = .ok (.ishl, 1) := by decide +kernel
theorem dX10_tire_100 : decode cX10_tire 100 = .ok (.goto 4, 3) := by decide +kernel
theorem dX10_tire_103 : decode cX10_tire 103 = .ok (.iconst 0, 1) := by decide +kernel
theorem dX10_tire_104 : decode cX10_tire 104 = .ok (.ior, 1) := by decide +kernel
theorem dX10_tire_105 : decode cX10_tire 105 = .ok (.istore_n 3, 1) := by decide +kernel
theorem dX10_tire_106 : decode cX10_tire 106 = .ok (.goto 29, 3) := by decide +kernel
theorem dX10_tire_109 : decode cX10_tire 109 = .ok (.aload_n 0, 1) := by decide +kernel
theorem dX10_tire_110 : decode cX10_tire 110 = .ok (.getfield 22, 3) := by decide +kernel
theorem dX10_tire_113 : decode cX10_tire 113 = .ok (.iload 4, 2) := by decide +kernel
theorem dX10_tire_115 : decode cX10_tire 115 = .ok (.aload_n 0, 1) := by decide +kernel
theorem dX10_tire_116 : decode cX10_tire 116 = .ok (.getfield 22, 3) := by decide +kernel
theorem dX10_tire_119 : decode cX10_tire 119 = .ok (.iload 4, 2) := by decide +kernel
theorem dX10_tire_121 : decode cX10_tire 121 = .ok (.iaload, 1) := by decide +kernel
theorem dX10_tire_122 : decode cX10_tire 122 = .ok (.aload_n 0, 1) := by decide +kernel
theorem dX10_tire_123 : decode cX10_tire 123 = .ok (.getfield 13, 3) := by decide +kernel
theorem dX10_tire_126 : decode cX10_tire 126 = .ok (.iload 4, 2) := by decide +kernel
theorem dX10_tire_128 : decode cX10_tire 128 = .ok (.iaload, 1) := by decide +kernel
theorem dX10_tire_129 : decode cX10_tire 129 = .ok (.isub, 1) := by decide +kernel
theorem dX10_tire_130 : decode cX10_tire 130 = .ok (.iconst 0, 1) := by decide +kernel
theorem dX10_tire_131 : decode cX10_tire 131 = .ok (.invokestatic 180, 3) := by decide +kernel
theorem dX10_tire_134 : decode cX10_tire 134 = .ok (.iastore, 1) := by decide +kernel
theorem dX10_tire_135 : decode cX10_tire 135 = .ok (.iinc 4 1, 3) := by decide +kernel
theorem dX10_tire_138 : decode cX10_tire 138 = .ok (.goto (-133), 3) := by decide +kernel
theorem dX10_tire_141 : decode cX10_tire 141 = .ok (.iload_n 3, 1) := by decide +kernel
theorem dX10_tire_142 : decode cX10_tire 142 = .ok (.ireturn, 1) := by decide +kernel
theorem dX10_sitsUp_0 : decode cX10_sitsUp 0 = .ok (.iload_n 0, 1) := by decide +kernel
theorem dX10_sitsUp_1 : decode cX10_sitsUp 1 = .ok (.iload_n 1, 1) := by decide +kernel
theorem dX10_sitsUp_2 : decode cX10_sitsUp 2 = .ok (.iand, 1) := by decide +kernel
theorem dX10_sitsUp_3 : decode cX10_sitsUp 3 = .ok (.istore_n 3, 1) := by decide +kernel
theorem dX10_sitsUp_4 : decode cX10_sitsUp 4 = .ok (.iload_n 3, 1) := by decide +kernel
theorem dX10_sitsUp_5 : decode cX10_sitsUp 5 = .ok (.ifCond .ne 19, 3) := by decide +kernel
theorem dX10_sitsUp_8 : decode cX10_sitsUp 8 = .ok (.iload_n 1, 1) := by decide +kernel
theorem dX10_sitsUp_9 : decode cX10_sitsUp 9 = .ok (.iload_n 2, 1) := by decide +kernel
theorem dX10_sitsUp_10 : decode cX10_sitsUp 10 = .ok (.iconst (-1), 1) := by decide +kernel
theorem dX10_sitsUp_11 : decode cX10_sitsUp 11 = .ok (.ixor, 1) := by decide +kernel
theorem dX10_sitsUp_12 : decode cX10_sitsUp 12 = .ok (.iand, 1) := by decide +kernel
theorem dX10_sitsUp_13 : decode cX10_sitsUp 13 = .ok (.ifCond .ne 7, 3) := by decide +kernel
theorem dX10_sitsUp_16 : decode cX10_sitsUp 16 = .ok (.iconst 1, 1) := by decide +kernel
theorem dX10_sitsUp_17 : decode cX10_sitsUp 17 = .ok (.goto 20, 3) := by decide +kernel
theorem dX10_sitsUp_20 : decode cX10_sitsUp 20 = .ok (.iconst 0, 1) := by decide +kernel
theorem dX10_sitsUp_21 : decode cX10_sitsUp 21 = .ok (.goto 16, 3) := by decide +kernel
theorem dX10_sitsUp_24 : decode cX10_sitsUp 24 = .ok (.iload_n 3, 1) := by decide +kernel
theorem dX10_sitsUp_25 : decode cX10_sitsUp 25 = .ok (.iload_n 2, 1) := by decide +kernel
theorem dX10_sitsUp_26 : decode cX10_sitsUp 26 = .ok (.iconst (-1), 1) := by decide +kernel
theorem dX10_sitsUp_27 : decode cX10_sitsUp 27 = .ok (.ixor, 1) := by decide +kernel
theorem dX10_sitsUp_28 : decode cX10_sitsUp 28 = .ok (.iand, 1) := by decide +kernel
theorem dX10_sitsUp_29 : decode cX10_sitsUp 29 = .ok (.ifCond .ne 7, 3) := by decide +kernel
theorem dX10_sitsUp_32 : decode cX10_sitsUp 32 = .ok (.iconst 1, 1) := by decide +kernel
theorem dX10_sitsUp_33 : decode cX10_sitsUp 33 = .ok (.goto 4, 3) := by decide +kernel
theorem dX10_sitsUp_36 : decode cX10_sitsUp 36 = .ok (.iconst 0, 1) := by decide +kernel
theorem dX10_sitsUp_37 : decode cX10_sitsUp 37 = .ok (.ireturn, 1) := by decide +kernel
theorem dX10_passHour_0 : decode cX10_passHour 0 = .ok (.aload_n 0, 1) := by decide +kernel
theorem dX10_passHour_1 : decode cX10_passHour 1 = .ok (.getfield 22, 3) := by decide +kernel
theorem dX10_passHour_4 : decode cX10_passHour 4 = .ok (.bipush 12, 2) := by decide +kernel
theorem dX10_passHour_6 : decode cX10_passHour 6 = .ok (.dup2, 1) := by decide +kernel
theorem dX10_passHour_7 : decode cX10_passHour 7 = .ok (.iaload, 1) := by decide +kernel
theorem dX10_passHour_8 : decode cX10_passHour 8 = .ok (.iconst 1, 1) := by decide +kernel
theorem dX10_passHour_9 : decode cX10_passHour 9 = .ok (.iadd, 1) := by decide +kernel
theorem dX10_passHour_10 : decode cX10_passHour 10 = .ok (.iastore, 1) := by decide +kernel
theorem dX10_passHour_11 : decode cX10_passHour 11 = .ok (.aload_n 0, 1) := by decide +kernel
theorem dX10_passHour_12 : decode cX10_passHour 12 = .ok (.getfield 22, 3) := by decide +kernel
theorem dX10_passHour_15 : decode cX10_passHour 15 = .ok (.bipush 18, 2) := by decide +kernel
theorem dX10_passHour_17 : decode cX10_passHour 17 = .ok (.aload_n 0, 1) := by decide +kernel
theorem dX10_passHour_18 : decode cX10_passHour 18 = .ok (.getfield 22, 3) := by decide +kernel
theorem dX10_passHour_21 : decode cX10_passHour 21 = .ok (.bipush 12, 2) := by decide +kernel
theorem dX10_passHour_23 : decode cX10_passHour 23 = .ok (.iaload, 1) := by decide +kernel
theorem dX10_passHour_24 : decode cX10_passHour 24 = .ok (.aload_n 0, 1) := by decide +kernel
theorem dX10_passHour_25 : decode cX10_passHour 25 = .ok (.getfield 81, 3) := by decide +kernel
theorem dX10_passHour_28 : decode cX10_passHour 28 = .ok (.irem, 1) := by decide +kernel
theorem dX10_passHour_29 : decode cX10_passHour 29 = .ok (.ifCond .ne 7, 3) := by decide +kernel
theorem dX10_passHour_32 : decode cX10_passHour 32 = .ok (.iconst 0, 1) := by decide +kernel
theorem dX10_passHour_33 : decode cX10_passHour 33 = .ok (.goto 10, 3) := by decide +kernel
theorem dX10_passHour_36 : decode cX10_passHour 36 = .ok (.aload_n 0, 1) := by decide +kernel
theorem dX10_passHour_37 : decode cX10_passHour 37 = .ok (.getfield 22, 3) := by decide +kernel
theorem dX10_passHour_40 : decode cX10_passHour 40 = .ok (.bipush 18, 2) := by decide +kernel
theorem dX10_passHour_42 : decode cX10_passHour 42 = .ok (.iaload, 1) := by decide +kernel
theorem dX10_passHour_43 : decode cX10_passHour 43 = .ok (.iastore, 1) := by decide +kernel
theorem dX10_passHour_44 : decode cX10_passHour 44 = .ok (.return_, 1) := by decide +kernel
theorem dX10_hourBy_0 : decode cX10_hourBy 0 = .ok (.aload_n 0, 1) := by decide +kernel
theorem dX10_hourBy_1 : decode cX10_hourBy 1 = .ok (.iload_n 1, 1) := by decide +kernel
theorem dX10_hourBy_2 : decode cX10_hourBy 2 = .ok (.iload_n 2, 1) := by decide +kernel
theorem dX10_hourBy_3 : decode cX10_hourBy 3 = .ok (.invokevirtual 186, 3) := by decide +kernel
theorem dX10_hourBy_6 : decode cX10_hourBy 6 = .ok (.istore_n 3, 1) := by decide +kernel
theorem dX10_hourBy_7 : decode cX10_hourBy 7 = .ok (.iload_n 1, 1) := by decide +kernel
theorem dX10_hourBy_8 : decode cX10_hourBy 8 = .ok (.iload_n 3, 1) := by decide +kernel
theorem dX10_hourBy_9 : decode cX10_hourBy 9 = .ok (.iconst (-1), 1) := by decide +kernel
theorem dX10_hourBy_10 : decode cX10_hourBy 10 = .ok (.ixor, 1) := by decide +kernel
theorem dX10_hourBy_11 : decode cX10_hourBy 11 = .ok (.iand, 1) := by decide +kernel
theorem dX10_hourBy_12 : decode cX10_hourBy 12 = .ok (.ifCond .eq 7, 3) := by decide +kernel
theorem dX10_hourBy_15 : decode cX10_hourBy 15 = .ok (.iconst 1, 1) := by decide +kernel
theorem dX10_hourBy_16 : decode cX10_hourBy 16 = .ok (.goto 4, 3) := by decide +kernel
theorem dX10_hourBy_19 : decode cX10_hourBy 19 = .ok (.iconst 0, 1) := by decide +kernel
theorem dX10_hourBy_20 : decode cX10_hourBy 20 = .ok (.istore 4, 2) := by decide +kernel
theorem dX10_hourBy_22 : decode cX10_hourBy 22 = .ok (.iconst 0, 1) := by decide +kernel
theorem dX10_hourBy_23 : decode cX10_hourBy 23 = .ok (.istore 5, 2) := by decide +kernel
theorem dX10_hourBy_25 : decode cX10_hourBy 25 = .ok (.iconst 0, 1) := by decide +kernel
theorem dX10_hourBy_26 : decode cX10_hourBy 26 = .ok (.istore 6, 2) := by decide +kernel
theorem dX10_hourBy_28 : decode cX10_hourBy 28 = .ok (.iload 6, 2) := by decide +kernel
theorem dX10_hourBy_30 : decode cX10_hourBy 30 = .ok (.aload_n 0, 1) := by decide +kernel
theorem dX10_hourBy_31 : decode cX10_hourBy 31 = .ok (.getfield 91, 3) := by decide +kernel
theorem dX10_hourBy_34 : decode cX10_hourBy 34 = .ok (.if_icmp .ge 37, 3) := by decide +kernel
theorem dX10_hourBy_37 : decode cX10_hourBy 37 = .ok (.iload 5, 2) := by decide +kernel
theorem dX10_hourBy_39 : decode cX10_hourBy 39 = .ok (.aload_n 0, 1) := by decide +kernel
theorem dX10_hourBy_40 : decode cX10_hourBy 40 = .ok (.getfield 19, 3) := by decide +kernel
theorem dX10_hourBy_43 : decode cX10_hourBy 43 = .ok (.iload 6, 2) := by decide +kernel
theorem dX10_hourBy_45 : decode cX10_hourBy 45 = .ok (.iaload, 1) := by decide +kernel
theorem dX10_hourBy_46 : decode cX10_hourBy 46 = .ok (.iload_n 1, 1) := by decide +kernel
theorem dX10_hourBy_47 : decode cX10_hourBy 47 = .ok (.iload_n 3, 1) := by decide +kernel
theorem dX10_hourBy_48 : decode cX10_hourBy 48 = .ok (.invokestatic 190, 3) := by decide +kernel
theorem dX10_hourBy_51 : decode cX10_hourBy 51 = .ok (.ifCond .eq 10, 3) := by decide +kernel
theorem dX10_hourBy_54 : decode cX10_hourBy 54 = .ok (.iconst 1, 1) := by decide +kernel
theorem dX10_hourBy_55 : decode cX10_hourBy 55 = .ok (.iload 6, 2) := by decide +kernel
theorem dX10_hourBy_57 : decode cX10_hourBy 57 = .ok (.ishl, 1) := by decide +kernel
theorem dX10_hourBy_58 : decode cX10_hourBy 58 = .ok (.goto 4, 3) := by decide +kernel
theorem dX10_hourBy_61 : decode cX10_hourBy 61 = .ok (.iconst 0, 1) := by decide +kernel
theorem dX10_hourBy_62 : decode cX10_hourBy 62 = .ok (.ior, 1) := by decide +kernel
theorem dX10_hourBy_63 : decode cX10_hourBy 63 = .ok (.istore 5, 2) := by decide +kernel
theorem dX10_hourBy_65 : decode cX10_hourBy 65 = .ok (.iinc 6 1, 3) := by decide +kernel
theorem dX10_hourBy_68 : decode cX10_hourBy 68 = .ok (.goto (-40), 3) := by decide +kernel
theorem dX10_hourBy_71 : decode cX10_hourBy 71 = .ok (.iconst 0, 1) := by decide +kernel
theorem dX10_hourBy_72 : decode cX10_hourBy 72 = .ok (.istore 6, 2) := by decide +kernel
theorem dX10_hourBy_74 : decode cX10_hourBy 74 = .ok (.iload 6, 2) := by decide +kernel
theorem dX10_hourBy_76 : decode cX10_hourBy 76 = .ok (.aload_n 0, 1) := by decide +kernel
theorem dX10_hourBy_77 : decode cX10_hourBy 77 = .ok (.getfield 84, 3) := by decide +kernel
theorem dX10_hourBy_80 : decode cX10_hourBy 80 = .ok (.if_icmp .ge 40, 3) := by decide +kernel
theorem dX10_hourBy_83 : decode cX10_hourBy 83 = .ok (.aload_n 0, 1) := by decide +kernel
theorem dX10_hourBy_84 : decode cX10_hourBy 84 = .ok (.getfield 22, 3) := by decide +kernel
theorem dX10_hourBy_87 : decode cX10_hourBy 87 = .ok (.bipush 6, 2) := by decide +kernel
theorem dX10_hourBy_89 : decode cX10_hourBy 89 = .ok (.iload 6, 2) := by decide +kernel
theorem dX10_hourBy_91 : decode cX10_hourBy 91 = .ok (.iadd, 1) := by decide +kernel
theorem dX10_hourBy_92 : decode cX10_hourBy 92 = .ok (.dup2, 1) := by decide +kernel
theorem dX10_hourBy_93 : decode cX10_hourBy 93 = .ok (.iaload, 1) := by decide +kernel
theorem dX10_hourBy_94 : decode cX10_hourBy 94 = .ok (.iload_n 1, 1) := by decide +kernel
theorem dX10_hourBy_95 : decode cX10_hourBy 95 = .ok (.iload_n 3, 1) := by decide +kernel
theorem dX10_hourBy_96 : decode cX10_hourBy 96 = .ok (.iconst (-1), 1) := by decide +kernel
theorem dX10_hourBy_97 : decode cX10_hourBy 97 = .ok (.ixor, 1) := by decide +kernel
theorem dX10_hourBy_98 : decode cX10_hourBy 98 = .ok (.iand, 1) := by decide +kernel
theorem dX10_hourBy_99 : decode cX10_hourBy 99 = .ok (.iload 6, 2) := by decide +kernel
theorem dX10_hourBy_101 : decode cX10_hourBy 101 = .ok (.invokestatic 176, 3) := by decide +kernel
theorem dX10_hourBy_104 : decode cX10_hourBy 104 = .ok (.ifCond .eq 7, 3) := by decide +kernel
theorem dX10_hourBy_107 : decode cX10_hourBy 107 = .ok (.iconst 1, 1) := by decide +kernel
theorem dX10_hourBy_108 : decode cX10_hourBy 108 = .ok (.goto 4, 3) := by decide +kernel
theorem dX10_hourBy_111 : decode cX10_hourBy 111 = .ok (.iconst 0, 1) := by decide +kernel
theorem dX10_hourBy_112 : decode cX10_hourBy 112 = .ok (.iadd, 1) := by decide +kernel
theorem dX10_hourBy_113 : decode cX10_hourBy 113 = .ok (.iastore, 1) := by decide +kernel
theorem dX10_hourBy_114 : decode cX10_hourBy 114 = .ok (.iinc 6 1, 3) := by decide +kernel
theorem dX10_hourBy_117 : decode cX10_hourBy 117 = .ok (.goto (-43), 3) := by decide +kernel
theorem dX10_hourBy_120 : decode cX10_hourBy 120 = .ok (.aload_n 0, 1) := by decide +kernel
theorem dX10_hourBy_121 : decode cX10_hourBy 121 = .ok (.getfield 22, 3) := by decide +kernel
theorem dX10_hourBy_124 : decode cX10_hourBy 124 = .ok (.bipush 13, 2) := by decide +kernel
theorem dX10_hourBy_126 : decode cX10_hourBy 126 = .ok (.iload 4, 2) := by decide +kernel
theorem dX10_hourBy_128 : decode cX10_hourBy 128 = .ok (.ifCond .eq 23, 3) := by decide +kernel
theorem dX10_hourBy_131 : decode cX10_hourBy 131 = .ok (.aload_n 0, 1) := by decide +kernel
theorem dX10_hourBy_132 : decode cX10_hourBy 132 = .ok (.getfield 22, 3) := by decide +kernel
theorem dX10_hourBy_135 : decode cX10_hourBy 135 = .ok (.bipush 13, 2) := by decide +kernel
theorem dX10_hourBy_137 : decode cX10_hourBy 137 = .ok (.iaload, 1) := by decide +kernel
theorem dX10_hourBy_138 : decode cX10_hourBy 138 = .ok (.aload_n 0, 1) := by decide +kernel
theorem dX10_hourBy_139 : decode cX10_hourBy 139 = .ok (.getfield 144, 3) := by decide +kernel
theorem dX10_hourBy_142 : decode cX10_hourBy 142 = .ok (.iadd, 1) := by decide +kernel
theorem dX10_hourBy_143 : decode cX10_hourBy 143 = .ok (.ldc 194, 2) := by decide +kernel
theorem dX10_hourBy_145 : decode cX10_hourBy 145 = .ok (.invokestatic 183, 3) := by decide +kernel
theorem dX10_hourBy_148 : decode cX10_hourBy 148 = .ok (.goto 10, 3) := by decide +kernel
theorem dX10_hourBy_151 : decode cX10_hourBy 151 = .ok (.aload_n 0, 1) := by decide +kernel
theorem dX10_hourBy_152 : decode cX10_hourBy 152 = .ok (.getfield 22, 3) := by decide +kernel
theorem dX10_hourBy_155 : decode cX10_hourBy 155 = .ok (.bipush 13, 2) := by decide +kernel
theorem dX10_hourBy_157 : decode cX10_hourBy 157 = .ok (.iaload, 1) := by decide +kernel
theorem dX10_hourBy_158 : decode cX10_hourBy 158 = .ok (.iastore, 1) := by decide +kernel
theorem dX10_hourBy_159 : decode cX10_hourBy 159 = .ok (.aload_n 0, 1) := by decide +kernel
theorem dX10_hourBy_160 : decode cX10_hourBy 160 = .ok (.getfield 22, 3) := by decide +kernel
theorem dX10_hourBy_163 : decode cX10_hourBy 163 = .ok (.bipush 14, 2) := by decide +kernel
theorem dX10_hourBy_165 : decode cX10_hourBy 165 = .ok (.aload_n 0, 1) := by decide +kernel
theorem dX10_hourBy_166 : decode cX10_hourBy 166 = .ok (.getfield 22, 3) := by decide +kernel
theorem dX10_hourBy_169 : decode cX10_hourBy 169 = .ok (.bipush 14, 2) := by decide +kernel
theorem dX10_hourBy_171 : decode cX10_hourBy 171 = .ok (.iaload, 1) := by decide +kernel
theorem dX10_hourBy_172 : decode cX10_hourBy 172 = .ok (.aload_n 0, 1) := by decide +kernel
theorem dX10_hourBy_173 : decode cX10_hourBy 173 = .ok (.getfield 147, 3) := by decide +kernel
theorem dX10_hourBy_176 : decode cX10_hourBy 176 = .ok (.iload 5, 2) := by decide +kernel
theorem dX10_hourBy_178 : decode cX10_hourBy 178 = .ok (.invokestatic 195, 3) := by decide +kernel
theorem dX10_hourBy_181 : decode cX10_hourBy 181 = .ok (.imul, 1) := by decide +kernel
theorem dX10_hourBy_182 : decode cX10_hourBy 182 = .ok (.iadd, 1) := by decide +kernel
theorem dX10_hourBy_183 : decode cX10_hourBy 183 = .ok (.ldc 194, 2) := by decide +kernel
theorem dX10_hourBy_185 : decode cX10_hourBy 185 = .ok (.invokestatic 183, 3) := by decide +kernel
theorem dX10_hourBy_188 : decode cX10_hourBy 188 = .ok (.iastore, 1) := by decide +kernel
theorem dX10_hourBy_189 : decode cX10_hourBy 189 = .ok (.aload_n 0, 1) := by decide +kernel
theorem dX10_hourBy_190 : decode cX10_hourBy 190 = .ok (.getfield 22, 3) := by decide +kernel
theorem dX10_hourBy_193 : decode cX10_hourBy 193 = .ok (.bipush 15, 2) := by decide +kernel
theorem dX10_hourBy_195 : decode cX10_hourBy 195 = .ok (.iload_n 3, 1) := by decide +kernel
theorem dX10_hourBy_196 : decode cX10_hourBy 196 = .ok (.iastore, 1) := by decide +kernel
theorem dX10_hourBy_197 : decode cX10_hourBy 197 = .ok (.aload_n 0, 1) := by decide +kernel
theorem dX10_hourBy_198 : decode cX10_hourBy 198 = .ok (.getfield 22, 3) := by decide +kernel
theorem dX10_hourBy_201 : decode cX10_hourBy 201 = .ok (.bipush 16, 2) := by decide +kernel
theorem dX10_hourBy_203 : decode cX10_hourBy 203 = .ok (.iload 5, 2) := by decide +kernel
theorem dX10_hourBy_205 : decode cX10_hourBy 205 = .ok (.iastore, 1) := by decide +kernel
theorem dX10_hourBy_206 : decode cX10_hourBy 206 = .ok (.aload_n 0, 1) := by decide +kernel
theorem dX10_hourBy_207 : decode cX10_hourBy 207 = .ok (.getfield 22, 3) := by decide +kernel
theorem dX10_hourBy_210 : decode cX10_hourBy 210 = .ok (.bipush 17, 2) := by decide +kernel
theorem dX10_hourBy_212 : decode cX10_hourBy 212 = .ok (.dup2, 1) := by decide +kernel
theorem dX10_hourBy_213 : decode cX10_hourBy 213 = .ok (.iaload, 1) := by decide +kernel
theorem dX10_hourBy_214 : decode cX10_hourBy 214 = .ok (.iload 4, 2) := by decide +kernel
theorem dX10_hourBy_216 : decode cX10_hourBy 216 = .ok (.ifCond .eq 7, 3) := by decide +kernel
theorem dX10_hourBy_219 : decode cX10_hourBy 219 = .ok (.iconst 0, 1) := by decide +kernel
theorem dX10_hourBy_220 : decode cX10_hourBy 220 = .ok (.goto 4, 3) := by decide +kernel
theorem dX10_hourBy_223 : decode cX10_hourBy 223 = .ok (.iconst 1, 1) := by decide +kernel
theorem dX10_hourBy_224 : decode cX10_hourBy 224 = .ok (.iadd, 1) := by decide +kernel
theorem dX10_hourBy_225 : decode cX10_hourBy 225 = .ok (.iastore, 1) := by decide +kernel
theorem dX10_hourBy_226 : decode cX10_hourBy 226 = .ok (.aload_n 0, 1) := by decide +kernel
theorem dX10_hourBy_227 : decode cX10_hourBy 227 = .ok (.invokevirtual 199, 3) := by decide +kernel
theorem dX10_hourBy_230 : decode cX10_hourBy 230 = .ok (.return_, 1) := by decide +kernel
theorem dX10_remember_0 : decode cX10_remember 0 = .ok (.aload_n 0, 1) := by decide +kernel
theorem dX10_remember_1 : decode cX10_remember 1 = .ok (.getfield 165, 3) := by decide +kernel
theorem dX10_remember_4 : decode cX10_remember 4 = .ok (.bipush 20, 2) := by decide +kernel
theorem dX10_remember_6 : decode cX10_remember 6 = .ok (.if_icmp .ne 44, 3) := by decide +kernel
theorem dX10_remember_9 : decode cX10_remember 9 = .ok (.bipush 19, 2) := by decide +kernel
theorem dX10_remember_11 : decode cX10_remember 11 = .ok (.istore_n 1, 1) := by decide +kernel
theorem dX10_remember_12 : decode cX10_remember 12 = .ok (.iload_n 1, 1) := by decide +kernel
theorem dX10_remember_13 : decode cX10_remember 13 = .ok (.sipush 380, 3) := by decide +kernel
theorem dX10_remember_16 : decode cX10_remember 16 = .ok (.if_icmp .ge 24, 3) := by decide +kernel
theorem dX10_remember_19 : decode cX10_remember 19 = .ok (.aload_n 0, 1) := by decide +kernel
theorem dX10_remember_20 : decode cX10_remember 20 = .ok (.getfield 50, 3) := by decide +kernel
theorem dX10_remember_23 : decode cX10_remember 23 = .ok (.iload_n 1, 1) := by decide +kernel
theorem dX10_remember_24 : decode cX10_remember 24 = .ok (.bipush 19, 2) := by decide +kernel
theorem dX10_remember_26 : decode cX10_remember 26 = .ok (.isub, 1) := by decide +kernel
theorem dX10_remember_27 : decode cX10_remember 27 = .ok (.aload_n 0, 1) := by decide +kernel
theorem dX10_remember_28 : decode cX10_remember 28 = .ok (.getfield 50, 3) := by decide +kernel
theorem dX10_remember_31 : decode cX10_remember 31 = .ok (.iload_n 1, 1) := by decide +kernel
theorem dX10_remember_32 : decode cX10_remember 32 = .ok (.iaload, 1) := by decide +kernel
theorem dX10_remember_33 : decode cX10_remember 33 = .ok (.iastore, 1) := by decide +kernel
theorem dX10_remember_34 : decode cX10_remember 34 = .ok (.iinc 1 1, 3) := by decide +kernel
theorem dX10_remember_37 : decode cX10_remember 37 = .ok (.goto (-25), 3) := by decide +kernel
theorem dX10_remember_40 : decode cX10_remember 40 = .ok (.aload_n 0, 1) := by decide +kernel
theorem dX10_remember_41 : decode cX10_remember 41 = .ok (.dup, 1) := by decide +kernel
theorem dX10_remember_42 : decode cX10_remember 42 = .ok (.getfield 165, 3) := by decide +kernel
theorem dX10_remember_45 : decode cX10_remember 45 = .ok (.iconst 1, 1) := by decide +kernel
theorem dX10_remember_46 : decode cX10_remember 46 = .ok (.isub, 1) := by decide +kernel
theorem dX10_remember_47 : decode cX10_remember 47 = .ok (.putfield 165, 3) := by decide +kernel
theorem dX10_remember_50 : decode cX10_remember 50 = .ok (.iconst 0, 1) := by decide +kernel
theorem dX10_remember_51 : decode cX10_remember 51 = .ok (.istore_n 1, 1) := by decide +kernel
theorem dX10_remember_52 : decode cX10_remember 52 = .ok (.iload_n 1, 1) := by decide +kernel
theorem dX10_remember_53 : decode cX10_remember 53 = .ok (.bipush 19, 2) := by decide +kernel
theorem dX10_remember_55 : decode cX10_remember 55 = .ok (.if_icmp .ge 29, 3) := by decide +kernel
theorem dX10_remember_58 : decode cX10_remember 58 = .ok (.aload_n 0, 1) := by decide +kernel
theorem dX10_remember_59 : decode cX10_remember 59 = .ok (.getfield 50, 3) := by decide +kernel
theorem dX10_remember_62 : decode cX10_remember 62 = .ok (.bipush 19, 2) := by decide +kernel
theorem dX10_remember_64 : decode cX10_remember 64 = .ok (.aload_n 0, 1) := by decide +kernel
theorem dX10_remember_65 : decode cX10_remember 65 = .ok (.getfield 165, 3) := by decide +kernel
theorem dX10_remember_68 : decode cX10_remember 68 = .ok (.imul, 1) := by decide +kernel
theorem dX10_remember_69 : decode cX10_remember 69 = .ok (.iload_n 1, 1) := by decide +kernel
theorem dX10_remember_70 : decode cX10_remember 70 = .ok (.iadd, 1) := by decide +kernel
theorem dX10_remember_71 : decode cX10_remember 71 = .ok (.aload_n 0, 1) := by decide +kernel
theorem dX10_remember_72 : decode cX10_remember 72 = .ok (.getfield 22, 3) := by decide +kernel
theorem dX10_remember_75 : decode cX10_remember 75 = .ok (.iload_n 1, 1) := by decide +kernel
theorem dX10_remember_76 : decode cX10_remember 76 = .ok (.iaload, 1) := by decide +kernel
theorem dX10_remember_77 : decode cX10_remember 77 = .ok (.iastore, 1) := by decide +kernel
theorem dX10_remember_78 : decode cX10_remember 78 = .ok (.iinc 1 1, 3) := by decide +kernel
theorem dX10_remember_81 : decode cX10_remember 81 = .ok (.goto (-29), 3) := by decide +kernel
theorem dX10_remember_84 : decode cX10_remember 84 = .ok (.aload_n 0, 1) := by decide +kernel
theorem dX10_remember_85 : decode cX10_remember 85 = .ok (.dup, 1) := by decide +kernel
theorem dX10_remember_86 : decode cX10_remember 86 = .ok (.getfield 165, 3) := by decide +kernel
theorem dX10_remember_89 : decode cX10_remember 89 = .ok (.iconst 1, 1) := by decide +kernel
theorem dX10_remember_90 : decode cX10_remember 90 = .ok (.iadd, 1) := by decide +kernel
theorem dX10_remember_91 : decode cX10_remember 91 = .ok (.putfield 165, 3) := by decide +kernel
theorem dX10_remember_94 : decode cX10_remember 94 = .ok (.return_, 1) := by decide +kernel
theorem dX10_hour_0 : decode cX10_hour 0 = .ok (.aload_n 0, 1) := by decide +kernel
theorem dX10_hour_1 : decode cX10_hour 1 = .ok (.iload_n 1, 1) := by decide +kernel
theorem dX10_hour_2 : decode cX10_hour 2 = .ok (.invokevirtual 202, 3) := by decide +kernel
theorem dX10_hour_5 : decode cX10_hour 5 = .ok (.ifCond .ne 6, 3) := by decide +kernel
theorem dX10_hour_8 : decode cX10_hour 8 = .ok (.ldc 172, 2) := by decide +kernel
theorem dX10_hour_10 : decode cX10_hour 10 = .ok (.ireturn, 1) := by decide +kernel
theorem dX10_hour_11 : decode cX10_hour 11 = .ok (.aload_n 0, 1) := by decide +kernel
theorem dX10_hour_12 : decode cX10_hour 12 = .ok (.getfield 81, 3) := by decide +kernel
theorem dX10_hour_15 : decode cX10_hour 15 = .ok (.ifCond .ne 6, 3) := by decide +kernel
theorem dX10_hour_18 : decode cX10_hour 18 = .ok (.ldc 205, 2) := by decide +kernel
theorem dX10_hour_20 : decode cX10_hour 20 = .ok (.ireturn, 1) := by decide +kernel
theorem dX10_hour_21 : decode cX10_hour 21 = .ok (.aload_n 0, 1) := by decide +kernel
theorem dX10_hour_22 : decode cX10_hour 22 = .ok (.getfield 22, 3) := by decide +kernel
theorem dX10_hour_25 : decode cX10_hour 25 = .ok (.bipush 12, 2) := by decide +kernel
theorem dX10_hour_27 : decode cX10_hour 27 = .ok (.iaload, 1) := by decide +kernel
theorem dX10_hour_28 : decode cX10_hour 28 = .ok (.ldc 206, 2) := by decide +kernel
theorem dX10_hour_30 : decode cX10_hour 30 = .ok (.if_icmp .le 6, 3) := by decide +kernel
theorem dX10_hour_33 : decode cX10_hour 33 = .ok (.ldc 100, 2) := by decide +kernel
theorem dX10_hour_35 : decode cX10_hour 35 = .ok (.ireturn, 1) := by decide +kernel
theorem dX10_hour_36 : decode cX10_hour 36 = .ok (.aload_n 0, 1) := by decide +kernel
theorem dX10_hour_37 : decode cX10_hour 37 = .ok (.invokevirtual 207, 3) := by decide +kernel
theorem dX10_hour_40 : decode cX10_hour 40 = .ok (.aload_n 0, 1) := by decide +kernel
theorem dX10_hour_41 : decode cX10_hour 41 = .ok (.iload_n 1, 1) := by decide +kernel
theorem dX10_hour_42 : decode cX10_hour 42 = .ok (.iload_n 2, 1) := by decide +kernel
theorem dX10_hour_43 : decode cX10_hour 43 = .ok (.invokevirtual 210, 3) := by decide +kernel
theorem dX10_hour_46 : decode cX10_hour 46 = .ok (.aload_n 0, 1) := by decide +kernel
theorem dX10_hour_47 : decode cX10_hour 47 = .ok (.getfield 22, 3) := by decide +kernel
theorem dX10_hour_50 : decode cX10_hour 50 = .ok (.bipush 15, 2) := by decide +kernel
theorem dX10_hour_52 : decode cX10_hour 52 = .ok (.iaload, 1) := by decide +kernel
theorem dX10_hour_53 : decode cX10_hour 53 = .ok (.ireturn, 1) := by decide +kernel
theorem dX10_coffee_0 : decode cX10_coffee 0 = .ok (.aload_n 0, 1) := by decide +kernel
theorem dX10_coffee_1 : decode cX10_coffee 1 = .ok (.iload_n 1, 1) := by decide +kernel
theorem dX10_coffee_2 : decode cX10_coffee 2 = .ok (.invokevirtual 168, 3) := by decide +kernel
theorem dX10_coffee_5 : decode cX10_coffee 5 = .ok (.ifCond .ne 6, 3) := by decide +kernel
theorem dX10_coffee_8 : decode cX10_coffee 8 = .ok (.ldc 172, 2) := by decide +kernel
theorem dX10_coffee_10 : decode cX10_coffee 10 = .ok (.ireturn, 1) := by decide +kernel
theorem dX10_coffee_11 : decode cX10_coffee 11 = .ok (.aload_n 0, 1) := by decide +kernel
theorem dX10_coffee_12 : decode cX10_coffee 12 = .ok (.getfield 22, 3) := by decide +kernel
theorem dX10_coffee_15 : decode cX10_coffee 15 = .ok (.bipush 18, 2) := by decide +kernel
theorem dX10_coffee_17 : decode cX10_coffee 17 = .ok (.iaload, 1) := by decide +kernel
theorem dX10_coffee_18 : decode cX10_coffee 18 = .ok (.iload_n 1, 1) := by decide +kernel
theorem dX10_coffee_19 : decode cX10_coffee 19 = .ok (.invokestatic 176, 3) := by decide +kernel
theorem dX10_coffee_22 : decode cX10_coffee 22 = .ok (.ifCond .eq 6, 3) := by decide +kernel
theorem dX10_coffee_25 : decode cX10_coffee 25 = .ok (.ldc 205, 2) := by decide +kernel
theorem dX10_coffee_27 : decode cX10_coffee 27 = .ok (.ireturn, 1) := by decide +kernel
theorem dX10_coffee_28 : decode cX10_coffee 28 = .ok (.aload_n 0, 1) := by decide +kernel
theorem dX10_coffee_29 : decode cX10_coffee 29 = .ok (.invokevirtual 207, 3) := by decide +kernel
theorem dX10_coffee_32 : decode cX10_coffee 32 = .ok (.aload_n 0, 1) := by decide +kernel
theorem dX10_coffee_33 : decode cX10_coffee 33 = .ok (.getfield 22, 3) := by decide +kernel
theorem dX10_coffee_36 : decode cX10_coffee 36 = .ok (.iload_n 1, 1) := by decide +kernel
theorem dX10_coffee_37 : decode cX10_coffee 37 = .ok (.aload_n 0, 1) := by decide +kernel
theorem dX10_coffee_38 : decode cX10_coffee 38 = .ok (.getfield 22, 3) := by decide +kernel
theorem dX10_coffee_41 : decode cX10_coffee 41 = .ok (.iload_n 1, 1) := by decide +kernel
theorem dX10_coffee_42 : decode cX10_coffee 42 = .ok (.iaload, 1) := by decide +kernel
theorem dX10_coffee_43 : decode cX10_coffee 43 = .ok (.bipush 30, 2) := by decide +kernel
theorem dX10_coffee_45 : decode cX10_coffee 45 = .ok (.isub, 1) := by decide +kernel
theorem dX10_coffee_46 : decode cX10_coffee 46 = .ok (.iconst 0, 1) := by decide +kernel
theorem dX10_coffee_47 : decode cX10_coffee 47 = .ok (.invokestatic 180, 3) := by decide +kernel
theorem dX10_coffee_50 : decode cX10_coffee 50 = .ok (.iastore, 1) := by decide +kernel
theorem dX10_coffee_51 : decode cX10_coffee 51 = .ok (.aload_n 0, 1) := by decide +kernel
theorem dX10_coffee_52 : decode cX10_coffee 52 = .ok (.getfield 22, 3) := by decide +kernel
theorem dX10_coffee_55 : decode cX10_coffee 55 = .ok (.bipush 18, 2) := by decide +kernel
