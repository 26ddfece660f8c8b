theorem dX9_init_0 : decode cX9_init 0 = .ok (.aload_n 0, 1) := by decide +kernel
theorem dX9_init_1 : decode cX9_init 1 = .ok (.invokespecial 1, 3) := by decide +kernel
theorem dX9_init_4 : decode cX9_init 4 = .ok (.aload_n 0, 1) := by decide +kernel
theorem dX9_init_5 : decode cX9_init 5 = .ok (.new 7, 3) := by decide +kernel
theorem dX9_init_8 : decode cX9_init 8 = .ok (.dup, 1) := by decide +kernel
theorem dX9_init_9 : decode cX9_init 9 = .ok (.invokespecial 9, 3) := by decide +kernel
theorem dX9_init_12 : decode cX9_init 12 = .ok (.putfield 10, 3) := by decide +kernel
theorem dX9_init_15 : decode cX9_init 15 = .ok (.aload_n 0, 1) := by decide +kernel
theorem dX9_init_16 : decode cX9_init 16 = .ok (.new 16, 3) := by decide +kernel
theorem dX9_init_19 : decode cX9_init 19 = .ok (.dup, 1) := by decide +kernel
theorem dX9_init_20 : decode cX9_init 20 = .ok (.invokespecial 18, 3) := by decide +kernel
theorem dX9_init_23 : decode cX9_init 23 = .ok (.putfield 19, 3) := by decide +kernel
theorem dX9_init_26 : decode cX9_init 26 = .ok (.aload_n 0, 1) := by decide +kernel
theorem dX9_init_27 : decode cX9_init 27 = .ok (.new 23, 3) := by decide +kernel
theorem dX9_init_30 : decode cX9_init 30 = .ok (.dup, 1) := by decide +kernel
theorem dX9_init_31 : decode cX9_init 31 = .ok (.invokespecial 25, 3) := by decide +kernel
theorem dX9_init_34 : decode cX9_init 34 = .ok (.putfield 26, 3) := by decide +kernel
theorem dX9_init_37 : decode cX9_init 37 = .ok (.aload_n 0, 1) := by decide +kernel
theorem dX9_init_38 : decode cX9_init 38 = .ok (.new 30, 3) := by decide +kernel
theorem dX9_init_41 : decode cX9_init 41 = .ok (.dup, 1) := by decide +kernel
theorem dX9_init_42 : decode cX9_init 42 = .ok (.invokespecial 32, 3) := by decide +kernel
theorem dX9_init_45 : decode cX9_init 45 = .ok (.putfield 33, 3) := by decide +kernel
theorem dX9_init_48 : decode cX9_init 48 = .ok (.aload_n 0, 1) := by decide +kernel
theorem dX9_init_49 : decode cX9_init 49 = .ok (.new 37, 3) := by decide +kernel
theorem dX9_init_52 : decode cX9_init 52 = .ok (.dup, 1) := by decide +kernel
theorem dX9_init_53 : decode cX9_init 53 = .ok (.invokespecial 39, 3) := by decide +kernel
theorem dX9_init_56 : decode cX9_init 56 = .ok (.putfield 40, 3) := by decide +kernel
theorem dX9_init_59 : decode cX9_init 59 = .ok (.aload_n 0, 1) := by decide +kernel
theorem dX9_init_60 : decode cX9_init 60 = .ok (.new 44, 3) := by decide +kernel
theorem dX9_init_63 : decode cX9_init 63 = .ok (.dup, 1) := by decide +kernel
theorem dX9_init_64 : decode cX9_init 64 = .ok (.invokespecial 46, 3) := by decide +kernel
theorem dX9_init_67 : decode cX9_init 67 = .ok (.putfield 47, 3) := by decide +kernel
theorem dX9_init_70 : decode cX9_init 70 = .ok (.aload_n 0, 1) := by decide +kernel
theorem dX9_init_71 : decode cX9_init 71 = .ok (.new 51, 3) := by decide +kernel
theorem dX9_init_74 : decode cX9_init 74 = .ok (.dup, 1) := by decide +kernel
theorem dX9_init_75 : decode cX9_init 75 = .ok (.invokespecial 53, 3) := by decide +kernel
theorem dX9_init_78 : decode cX9_init 78 = .ok (.putfield 54, 3) := by decide +kernel
theorem dX9_init_81 : decode cX9_init 81 = .ok (.aload_n 0, 1) := by decide +kernel
theorem dX9_init_82 : decode cX9_init 82 = .ok (.new 58, 3) := by decide +kernel
theorem dX9_init_85 : decode cX9_init 85 = .ok (.dup, 1) := by decide +kernel
theorem dX9_init_86 : decode cX9_init 86 = .ok (.invokespecial 60, 3) := by decide +kernel
theorem dX9_init_89 : decode cX9_init 89 = .ok (.putfield 61, 3) := by decide +kernel
theorem dX9_init_92 : decode cX9_init 92 = .ok (.aload_n 0, 1) := by decide +kernel
theorem dX9_init_93 : decode cX9_init 93 = .ok (.new 65, 3) := by decide +kernel
theorem dX9_init_96 : decode cX9_init 96 = .ok (.dup, 1) := by decide +kernel
theorem dX9_init_97 : decode cX9_init 97 = .ok (.invokespecial 67, 3) := by decide +kernel
theorem dX9_init_100 : decode cX9_init 100 = .ok (.putfield 68, 3) := by decide +kernel
theorem dX9_init_103 : decode cX9_init 103 = .ok (.return_, 1) := by decide +kernel
theorem dX9_feed_0 : decode cX9_feed 0 = .ok (.iload_n 1, 1) := by decide +kernel
theorem dX9_feed_1 : decode cX9_feed 1 = .ok (.ifCond .lt 10, 3) := by decide +kernel
theorem dX9_feed_4 : decode cX9_feed 4 = .ok (.iload_n 1, 1) := by decide +kernel
theorem dX9_feed_5 : decode cX9_feed 5 = .ok (.sipush 255, 3) := by decide +kernel
theorem dX9_feed_8 : decode cX9_feed 8 = .ok (.if_icmp .le 6, 3) := by decide +kernel
theorem dX9_feed_11 : decode cX9_feed 11 = .ok (.ldc 72, 2) := by decide +kernel
theorem dX9_feed_13 : decode cX9_feed 13 = .ok (.ireturn, 1) := by decide +kernel
theorem dX9_feed_14 : decode cX9_feed 14 = .ok (.aload_n 0, 1) := by decide +kernel
theorem dX9_feed_15 : decode cX9_feed 15 = .ok (.getfield 10, 3) := by decide +kernel
theorem dX9_feed_18 : decode cX9_feed 18 = .ok (.iload_n 1, 1) := by decide +kernel
theorem dX9_feed_19 : decode cX9_feed 19 = .ok (.invokevirtual 73, 3) := by decide +kernel
theorem dX9_feed_22 : decode cX9_feed 22 = .ok (.ifCond .ne 6, 3) := by decide +kernel
theorem dX9_feed_25 : decode cX9_feed 25 = .ok (.ldc 77, 2) := by decide +kernel
theorem dX9_feed_27 : decode cX9_feed 27 = .ok (.ireturn, 1) := by decide +kernel
theorem dX9_feed_28 : decode cX9_feed 28 = .ok (.aload_n 0, 1) := by decide +kernel
theorem dX9_feed_29 : decode cX9_feed 29 = .ok (.getfield 10, 3) := by decide +kernel
theorem dX9_feed_32 : decode cX9_feed 32 = .ok (.getfield 78, 3) := by decide +kernel
theorem dX9_feed_35 : decode cX9_feed 35 = .ok (.ireturn, 1) := by decide +kernel
theorem dX9_contract_0 : decode cX9_contract 0 = .ok (.aload_n 0, 1) := by decide +kernel
theorem dX9_contract_1 : decode cX9_contract 1 = .ok (.getfield 10, 3) := by decide +kernel
theorem dX9_contract_4 : decode cX9_contract 4 = .ok (.invokevirtual 82, 3) := by decide +kernel
theorem dX9_contract_7 : decode cX9_contract 7 = .ok (.istore_n 1, 1) := by decide +kernel
theorem dX9_contract_8 : decode cX9_contract 8 = .ok (.iload_n 1, 1) := by decide +kernel
theorem dX9_contract_9 : decode cX9_contract 9 = .ok (.ifCond .eq 8, 3) := by decide +kernel
theorem dX9_contract_12 : decode cX9_contract 12 = .ok (.bipush (-10), 2) := by decide +kernel
theorem dX9_contract_14 : decode cX9_contract 14 = .ok (.iload_n 1, 1) := by decide +kernel
theorem dX9_contract_15 : decode cX9_contract 15 = .ok (.isub, 1) := by decide +kernel
theorem dX9_contract_16 : decode cX9_contract 16 = .ok (.ireturn, 1) := by decide +kernel
theorem dX9_contract_17 : decode cX9_contract 17 = .ok (.aload_n 0, 1) := by decide +kernel
theorem dX9_contract_18 : decode cX9_contract 18 = .ok (.getfield 19, 3) := by decide +kernel
theorem dX9_contract_21 : decode cX9_contract 21 = .ok (.aload_n 0, 1) := by decide +kernel
theorem dX9_contract_22 : decode cX9_contract 22 = .ok (.getfield 10, 3) := by decide +kernel
theorem dX9_contract_25 : decode cX9_contract 25 = .ok (.getfield 86, 3) := by decide +kernel
theorem dX9_contract_28 : decode cX9_contract 28 = .ok (.invokevirtual 89, 3) := by decide +kernel
theorem dX9_contract_31 : decode cX9_contract 31 = .ok (.aload_n 0, 1) := by decide +kernel
theorem dX9_contract_32 : decode cX9_contract 32 = .ok (.getfield 26, 3) := by decide +kernel
theorem dX9_contract_35 : decode cX9_contract 35 = .ok (.aload_n 0, 1) := by decide +kernel
theorem dX9_contract_36 : decode cX9_contract 36 = .ok (.getfield 19, 3) := by decide +kernel
theorem dX9_contract_39 : decode cX9_contract 39 = .ok (.invokevirtual 93, 3) := by decide +kernel
theorem dX9_contract_42 : decode cX9_contract 42 = .ok (.aload_n 0, 1) := by decide +kernel
theorem dX9_contract_43 : decode cX9_contract 43 = .ok (.getfield 33, 3) := by decide +kernel
theorem dX9_contract_46 : decode cX9_contract 46 = .ok (.invokevirtual 96, 3) := by decide +kernel
theorem dX9_contract_49 : decode cX9_contract 49 = .ok (.aload_n 0, 1) := by decide +kernel
theorem dX9_contract_50 : decode cX9_contract 50 = .ok (.getfield 40, 3) := by decide +kernel
theorem dX9_contract_53 : decode cX9_contract 53 = .ok (.invokevirtual 99, 3) := by decide +kernel
theorem dX9_contract_56 : decode cX9_contract 56 = .ok (.aload_n 0, 1) := by decide +kernel
theorem dX9_contract_57 : decode cX9_contract 57 = .ok (.getfield 61, 3) := by decide +kernel
theorem dX9_contract_60 : decode cX9_contract 60 = .ok (.invokevirtual 100, 3) := by decide +kernel
theorem dX9_contract_63 : decode cX9_contract 63 = .ok (.aload_n 0, 1) := by decide +kernel
theorem dX9_contract_64 : decode cX9_contract 64 = .ok (.getfield 68, 3) := by decide +kernel
theorem dX9_contract_67 : decode cX9_contract 67 = .ok (.invokevirtual 101, 3) := by decide +kernel
theorem dX9_contract_70 : decode cX9_contract 70 = .ok (.aload_n 0, 1) := by decide +kernel
theorem dX9_contract_71 : decode cX9_contract 71 = .ok (.getfield 19, 3) := by decide +kernel
theorem dX9_contract_74 : decode cX9_contract 74 = .ok (.getfield 102, 3) := by decide +kernel
theorem dX9_contract_77 : decode cX9_contract 77 = .ok (.ireturn, 1) := by decide +kernel
theorem dX9_fault_0 : decode cX9_fault 0 = .ok (.aload_n 0, 1) := by decide +kernel
theorem dX9_fault_1 : decode cX9_fault 1 = .ok (.getfield 10, 3) := by decide +kernel
theorem dX9_fault_4 : decode cX9_fault 4 = .ok (.getfield 105, 3) := by decide +kernel
theorem dX9_fault_7 : decode cX9_fault 7 = .ok (.ireturn, 1) := by decide +kernel
theorem dX9_told_0 : decode cX9_told 0 = .ok (.iload_n 1, 1) := by decide +kernel
theorem dX9_told_1 : decode cX9_told 1 = .ok (.tableswitch 219 0 16 #[83, 91, 99, 107, 115, 123, 131, 139, 147, 155, 163, 171, 179, 187, 195, 203, 211], 83) := by decide +kernel
theorem dX9_told_84 : decode cX9_told 84 = .ok (.aload_n 0, 1) := by decide +kernel
theorem dX9_told_85 : decode cX9_told 85 = .ok (.getfield 19, 3) := by decide +kernel
theorem dX9_told_88 : decode cX9_told 88 = .ok (.getfield 108, 3) := by decide +kernel
theorem dX9_told_91 : decode cX9_told 91 = .ok (.ireturn, 1) := by decide +kernel
theorem dX9_told_92 : decode cX9_told 92 = .ok (.aload_n 0, 1) := by decide +kernel
theorem dX9_told_93 : decode cX9_told 93 = .ok (.getfield 19, 3) := by decide +kernel
theorem dX9_told_96 : decode cX9_told 96 = .ok (.getfield 111, 3) := by decide +kernel
theorem dX9_told_99 : decode cX9_told 99 = .ok (.ireturn, 1) := by decide +kernel
theorem dX9_told_100 : decode cX9_told 100 = .ok (.aload_n 0, 1) := by decide +kernel
theorem dX9_told_101 : decode cX9_told 101 = .ok (.getfield 19, 3) := by decide +kernel
theorem dX9_told_104 : decode cX9_told 104 = .ok (.getfield 114, 3) := by decide +kernel
theorem dX9_told_107 : decode cX9_told 107 = .ok (.ireturn, 1) := by decide +kernel
theorem dX9_told_108 : decode cX9_told 108 = .ok (.aload_n 0, 1) := by decide +kernel
theorem dX9_told_109 : decode cX9_told 109 = .ok (.getfield 19, 3) := by decide +kernel
theorem dX9_told_112 : decode cX9_told 112 = .ok (.getfield 117, 3) := by decide +kernel
theorem dX9_told_115 : decode cX9_told 115 = .ok (.ireturn, 1) := by decide +kernel
theorem dX9_told_116 : decode cX9_told 116 = .ok (.aload_n 0, 1) := by decide +kernel
theorem dX9_told_117 : decode cX9_told 117 = .ok (.getfield 19, 3) := by decide +kernel
theorem dX9_told_120 : decode cX9_told 120 = .ok (.getfield 102, 3) := by decide +kernel
theorem dX9_told_123 : decode cX9_told 123 = .ok (.ireturn, 1) := by decide +kernel
theorem dX9_told_124 : decode cX9_told 124 = .ok (.aload_n 0, 1) := by decide +kernel
theorem dX9_told_125 : decode cX9_told 125 = .ok (.getfield 19, 3) := by decide +kernel
theorem dX9_told_128 : decode cX9_told 128 = .ok (.getfield 120, 3) := by decide +kernel
theorem dX9_told_131 : decode cX9_told 131 = .ok (.ireturn, 1) := by decide +kernel
theorem dX9_told_132 : decode cX9_told 132 = .ok (.aload_n 0, 1) := by decide +kernel
theorem dX9_told_133 : decode cX9_told 133 = .ok (.getfield 10, 3) := by decide +kernel
theorem dX9_told_136 : decode cX9_told 136 = .ok (.getfield 78, 3) := by decide +kernel
theorem dX9_told_139 : decode cX9_told 139 = .ok (.ireturn, 1) := by decide +kernel
theorem dX9_told_140 : decode cX9_told 140 = .ok (.aload_n 0, 1) := by decide +kernel
theorem dX9_told_141 : decode cX9_told 141 = .ok (.getfield 26, 3) := by decide +kernel
theorem dX9_told_144 : decode cX9_told 144 = .ok (.getfield 123, 3) := by decide +kernel
theorem dX9_told_147 : decode cX9_told 147 = .ok (.ireturn, 1) := by decide +kernel
theorem dX9_told_148 : decode cX9_told 148 = .ok (.aload_n 0, 1) := by decide +kernel
theorem dX9_told_149 : decode cX9_told 149 = .ok (.getfield 26, 3) := by decide +kernel
theorem dX9_told_152 : decode cX9_told 152 = .ok (.getfield 126, 3) := by decide +kernel
theorem dX9_told_155 : decode cX9_told 155 = .ok (.ireturn, 1) := by decide +kernel
theorem dX9_told_156 : decode cX9_told 156 = .ok (.aload_n 0, 1) := by decide +kernel
theorem dX9_told_157 : decode cX9_told 157 = .ok (.getfield 26, 3) := by decide +kernel
theorem dX9_told_160 : decode cX9_told 160 = .ok (.getfield 127, 3) := by decide +kernel
theorem dX9_told_163 : decode cX9_told 163 = .ok (.ireturn, 1) := by decide +kernel
theorem dX9_told_164 : decode cX9_told 164 = .ok (.aload_n 0, 1) := by decide +kernel
theorem dX9_told_165 : decode cX9_told 165 = .ok (.getfield 26, 3) := by decide +kernel
theorem dX9_told_168 : decode cX9_told 168 = .ok (.getfield 130, 3) := by decide +kernel
theorem dX9_told_171 : decode cX9_told 171 = .ok (.ireturn, 1) := by decide +kernel
theorem dX9_told_172 : decode cX9_told 172 = .ok (.aload_n 0, 1) := by decide +kernel
theorem dX9_told_173 : decode cX9_told 173 = .ok (.getfield 26, 3) := by decide +kernel
theorem dX9_told_176 : decode cX9_told 176 = .ok (.getfield 133, 3) := by decide +kernel
theorem dX9_told_179 : decode cX9_told 179 = .ok (.ireturn, 1) := by decide +kernel
theorem dX9_told_180 : decode cX9_told 180 = .ok (.aload_n 0, 1) := by decide +kernel
theorem dX9_told_181 : decode cX9_told 181 = .ok (.getfield 26, 3) := by decide +kernel
theorem dX9_told_184 : decode cX9_told 184 = .ok (.getfield 136, 3) := by decide +kernel
theorem dX9_told_187 : decode cX9_told 187 = .ok (.ireturn, 1) := by decide +kernel
theorem dX9_told_188 : decode cX9_told 188 = .ok (.aload_n 0, 1) := by decide +kernel
theorem dX9_told_189 : decode cX9_told 189 = .ok (.getfield 26, 3) := by decide +kernel
theorem dX9_told_192 : decode cX9_told 192 = .ok (.getfield 139, 3) := by decide +kernel
theorem dX9_told_195 : decode cX9_told 195 = .ok (.ireturn, 1) := by decide +kernel
theorem dX9_told_196 : decode cX9_told 196 = .ok (.aload_n 0, 1) := by decide +kernel
theorem dX9_told_197 : decode cX9_told 197 = .ok (.getfield 61, 3) := by decide +kernel
theorem dX9_told_200 : decode cX9_told 200 = .ok (.getfield 142, 3) := by decide +kernel
theorem dX9_told_203 : decode cX9_told 203 = .ok (.ireturn, 1) := by decide +kernel
theorem dX9_told_204 : decode cX9_told 204 = .ok (.aload_n 0, 1) := by decide +kernel
theorem dX9_told_205 : decode cX9_told 205 = .ok (.getfield 68, 3) := by decide +kernel
theorem dX9_told_208 : decode cX9_told 208 = .ok (.getfield 145, 3) := by decide +kernel
theorem dX9_told_211 : decode cX9_told 211 = .ok (.ireturn, 1) := by decide +kernel
theorem dX9_told_212 : decode cX9_told 212 = .ok (.aload_n 0, 1) := by decide +kernel
theorem dX9_told_213 : decode cX9_told 213 = .ok (.getfield 33, 3) := by decide +kernel
theorem dX9_told_216 : decode cX9_told 216 = .ok (.getfield 146, 3) := by decide +kernel
theorem dX9_told_219 : decode cX9_told 219 = .ok (.ireturn, 1) := by decide +kernel
theorem dX9_told_220 : decode cX9_told 220 = .ok (.ldc 72, 2) := by decide +kernel
theorem dX9_told_222 : decode cX9_told 222 = .ok (.ireturn, 1) := by decide +kernel
theorem dX9_watcher_0 : decode cX9_watcher 0 = .ok (.aload_n 0, 1) := by decide +kernel
theorem dX9_watcher_1 : decode cX9_watcher 1 = .ok (.getfield 19, 3) := by decide +kernel
theorem dX9_watcher_4 : decode cX9_watcher 4 = .ok (.iload_n 1, 1) := by decide +kernel
theorem dX9_watcher_5 : decode cX9_watcher 5 = .ok (.invokevirtual 147, 3) := by decide +kernel
theorem dX9_watcher_8 : decode cX9_watcher 8 = .ok (.ifCond .ne 6, 3) := by decide +kernel
theorem dX9_watcher_11 : decode cX9_watcher 11 = .ok (.ldc 150, 2) := by decide +kernel
theorem dX9_watcher_13 : decode cX9_watcher 13 = .ok (.ireturn, 1) := by decide +kernel
theorem dX9_watcher_14 : decode cX9_watcher 14 = .ok (.iload_n 2, 1) := by decide +kernel
theorem dX9_watcher_15 : decode cX9_watcher 15 = .ok (.tableswitch 83 0 4 #[33, 43, 53, 63, 73], 33) := by decide +kernel
theorem dX9_watcher_48 : decode cX9_watcher 48 = .ok (.aload_n 0, 1) := by decide +kernel
theorem dX9_watcher_49 : decode cX9_watcher 49 = .ok (.getfield 26, 3) := by decide +kernel
theorem dX9_watcher_52 : decode cX9_watcher 52 = .ok (.getfield 151, 3) := by decide +kernel
theorem dX9_watcher_55 : decode cX9_watcher 55 = .ok (.iload_n 1, 1) := by decide +kernel
theorem dX9_watcher_56 : decode cX9_watcher 56 = .ok (.iaload, 1) := by decide +kernel
theorem dX9_watcher_57 : decode cX9_watcher 57 = .ok (.ireturn, 1) := by decide +kernel
theorem dX9_watcher_58 : decode cX9_watcher 58 = .ok (.aload_n 0, 1) := by decide +kernel
theorem dX9_watcher_59 : decode cX9_watcher 59 = .ok (.getfield 19, 3) := by decide +kernel
theorem dX9_watcher_62 : decode cX9_watcher 62 = .ok (.getfield 155, 3) := by decide +kernel
theorem dX9_watcher_65 : decode cX9_watcher 65 = .ok (.iload_n 1, 1) := by decide +kernel
theorem dX9_watcher_66 : decode cX9_watcher 66 = .ok (.iaload, 1) := by decide +kernel
theorem dX9_watcher_67 : decode cX9_watcher 67 = .ok (.ireturn, 1) := by decide +kernel
theorem dX9_watcher_68 : decode cX9_watcher 68 = .ok (.aload_n 0, 1) := by decide +kernel
theorem dX9_watcher_69 : decode cX9_watcher 69 = .ok (.getfield 19, 3) := by decide +kernel
theorem dX9_watcher_72 : decode cX9_watcher 72 = .ok (.getfield 158, 3) := by decide +kernel
theorem dX9_watcher_75 : decode cX9_watcher 75 = .ok (.iload_n 1, 1) := by decide +kernel
theorem dX9_watcher_76 : decode cX9_watcher 76 = .ok (.iaload, 1) := by decide +kernel
theorem dX9_watcher_77 : decode cX9_watcher 77 = .ok (.ireturn, 1) := by decide +kernel
theorem dX9_watcher_78 : decode cX9_watcher 78 = .ok (.aload_n 0, 1) := by decide +kernel
theorem dX9_watcher_79 : decode cX9_watcher 79 = .ok (.getfield 19, 3) := by decide +kernel
theorem dX9_watcher_82 : decode cX9_watcher 82 = .ok (.getfield 161, 3) := by decide +kernel
theorem dX9_watcher_85 : decode cX9_watcher 85 = .ok (.iload_n 1, 1) := by decide +kernel
theorem dX9_watcher_86 : decode cX9_watcher 86 = .ok (.iaload, 1) := by decide +kernel
theorem dX9_watcher_87 : decode cX9_watcher 87 = .ok (.ireturn, 1) := by decide +kernel
theorem dX9_watcher_88 : decode cX9_watcher 88 = .ok (.aload_n 0, 1) := by decide +kernel
theorem dX9_watcher_89 : decode cX9_watcher 89 = .ok (.getfield 26, 3) := by decide +kernel
theorem dX9_watcher_92 : decode cX9_watcher 92 = .ok (.getfield 164, 3) := by decide +kernel
theorem dX9_watcher_95 : decode cX9_watcher 95 = .ok (.iload_n 1, 1) := by decide +kernel
theorem dX9_watcher_96 : decode cX9_watcher 96 = .ok (.iaload, 1) := by decide +kernel
theorem dX9_watcher_97 : decode cX9_watcher 97 = .ok (.ireturn, 1) := by decide +kernel
theorem dX9_watcher_98 : decode cX9_watcher 98 = .ok (.ldc 72, 2) := by decide +kernel
theorem dX9_watcher_100 : decode cX9_watcher 100 = .ok (.ireturn, 1) := by decide +kernel
theorem dX9_sleeper_0 : decode cX9_sleeper 0 = .ok (.aload_n 0, 1) := by decide +kernel
theorem dX9_sleeper_1 : decode cX9_sleeper 1 = .ok (.getfield 19, 3) := by decide +kernel
theorem dX9_sleeper_4 : decode cX9_sleeper 4 = .ok (.iload_n 1, 1) := by decide +kernel
theorem dX9_sleeper_5 : decode cX9_sleeper 5 = .ok (.invokevirtual 167, 3) := by decide +kernel
theorem dX9_sleeper_8 : decode cX9_sleeper 8 = .ok (.ifCond .ne 6, 3) := by decide +kernel
theorem dX9_sleeper_11 : decode cX9_sleeper 11 = .ok (.ldc 150, 2) := by decide +kernel
theorem dX9_sleeper_13 : decode cX9_sleeper 13 = .ok (.ireturn, 1) := by decide +kernel
theorem dX9_sleeper_14 : decode cX9_sleeper 14 = .ok (.aload_n 0, 1) := by decide +kernel
theorem dX9_sleeper_15 : decode cX9_sleeper 15 = .ok (.getfield 19, 3) := by decide +kernel
theorem dX9_sleeper_18 : decode cX9_sleeper 18 = .ok (.getfield 170, 3) := by decide +kernel
theorem dX9_sleeper_21 : decode cX9_sleeper 21 = .ok (.iload_n 1, 1) := by decide +kernel
theorem dX9_sleeper_22 : decode cX9_sleeper 22 = .ok (.iaload, 1) := by decide +kernel
theorem dX9_sleeper_23 : decode cX9_sleeper 23 = .ok (.ireturn, 1) := by decide +kernel
theorem dX9_hour_0 : decode cX9_hour 0 = .ok (.aload_n 0, 1) := by decide +kernel
theorem dX9_hour_1 : decode cX9_hour 1 = .ok (.getfield 19, 3) := by decide +kernel
theorem dX9_hour_4 : decode cX9_hour 4 = .ok (.iload_n 1, 1) := by decide +kernel
theorem dX9_hour_5 : decode cX9_hour 5 = .ok (.invokevirtual 173, 3) := by decide +kernel
theorem dX9_hour_8 : decode cX9_hour 8 = .ok (.ifCond .ne 6, 3) := by decide +kernel
theorem dX9_hour_11 : decode cX9_hour 11 = .ok (.ldc 150, 2) := by decide +kernel
theorem dX9_hour_13 : decode cX9_hour 13 = .ok (.ireturn, 1) := by decide +kernel
theorem dX9_hour_14 : decode cX9_hour 14 = .ok (.aload_n 0, 1) := by decide +kernel
theorem dX9_hour_15 : decode cX9_hour 15 = .ok (.getfield 19, 3) := by decide +kernel
theorem dX9_hour_18 : decode cX9_hour 18 = .ok (.invokevirtual 176, 3) := by decide +kernel
theorem dX9_hour_21 : decode cX9_hour 21 = .ok (.ifCond .ne 6, 3) := by decide +kernel
theorem dX9_hour_24 : decode cX9_hour 24 = .ok (.ldc 180, 2) := by decide +kernel
theorem dX9_hour_26 : decode cX9_hour 26 = .ok (.ireturn, 1) := by decide +kernel
theorem dX9_hour_27 : decode cX9_hour 27 = .ok (.aload_n 0, 1) := by decide +kernel
theorem dX9_hour_28 : decode cX9_hour 28 = .ok (.getfield 26, 3) := by decide +kernel
theorem dX9_hour_31 : decode cX9_hour 31 = .ok (.getfield 123, 3) := by decide +kernel
theorem dX9_hour_34 : decode cX9_hour 34 = .ok (.ldc 181, 2) := by decide +kernel
theorem dX9_hour_36 : decode cX9_hour 36 = .ok (.if_icmp .le 6, 3) := by decide +kernel
theorem dX9_hour_39 : decode cX9_hour 39 = .ok (.ldc 77, 2) := by decide +kernel
theorem dX9_hour_41 : decode cX9_hour 41 = .ok (.ireturn, 1) := by decide +kernel
theorem dX9_hour_42 : decode cX9_hour 42 = .ok (.aload_n 0, 1) := by decide +kernel
theorem dX9_hour_43 : decode cX9_hour 43 = .ok (.getfield 33, 3) := by decide +kernel
theorem dX9_hour_46 : decode cX9_hour 46 = .ok (.aload_n 0, 1) := by decide +kernel
theorem dX9_hour_47 : decode cX9_hour 47 = .ok (.getfield 26, 3) := by decide +kernel
theorem dX9_hour_50 : decode cX9_hour 50 = .ok (.invokevirtual 182, 3) := by decide +kernel
theorem dX9_hour_53 : decode cX9_hour 53 = .ok (.aload_n 0, 1) := by decide +kernel
theorem dX9_hour_54 : decode cX9_hour 54 = .ok (.getfield 26, 3) := by decide +kernel
theorem dX9_hour_57 : decode cX9_hour 57 = .ok (.aload_n 0, 1) := by decide +kernel
theorem dX9_hour_58 : decode cX9_hour 58 = .ok (.getfield 19, 3) := by decide +kernel
theorem dX9_hour_61 : decode cX9_hour 61 = .ok (.iload_n 1, 1) := by decide +kernel
theorem dX9_hour_62 : decode cX9_hour 62 = .ok (.iload_n 2, 1) := by decide +kernel
theorem dX9_hour_63 : decode cX9_hour 63 = .ok (.invokevirtual 186, 3) := by decide +kernel
theorem dX9_hour_66 : decode cX9_hour 66 = .ok (.aload_n 0, 1) := by decide +kernel
theorem dX9_hour_67 : decode cX9_hour 67 = .ok (.getfield 26, 3) := by decide +kernel
theorem dX9_hour_70 : decode cX9_hour 70 = .ok (.getfield 130, 3) := by decide +kernel
theorem dX9_hour_73 : decode cX9_hour 73 = .ok (.ireturn, 1) := by decide +kernel
theorem dX9_coffee_0 : decode cX9_coffee 0 = .ok (.aload_n 0, 1) := by decide +kernel
theorem dX9_coffee_1 : decode cX9_coffee 1 = .ok (.getfield 19, 3) := by decide +kernel
theorem dX9_coffee_4 : decode cX9_coffee 4 = .ok (.iload_n 1, 1) := by decide +kernel
theorem dX9_coffee_5 : decode cX9_coffee 5 = .ok (.invokevirtual 147, 3) := by decide +kernel
theorem dX9_coffee_8 : decode cX9_coffee 8 = .ok (.ifCond .ne 6, 3) := by decide +kernel
theorem dX9_coffee_11 : decode cX9_coffee 11 = .ok (.ldc 150, 2) := by decide +kernel
theorem dX9_coffee_13 : decode cX9_coffee 13 = .ok (.ireturn, 1) := by decide +kernel
theorem dX9_coffee_14 : decode cX9_coffee 14 = .ok (.aload_n 0, 1) := by decide +kernel
theorem dX9_coffee_15 : decode cX9_coffee 15 = .ok (.getfield 26, 3) := by decide +kernel
theorem dX9_coffee_18 : decode cX9_coffee 18 = .ok (.getfield 139, 3) := by decide +kernel
theorem dX9_coffee_21 : decode cX9_coffee 21 = .ok (.iload_n 1, 1) := by decide +kernel
theorem dX9_coffee_22 : decode cX9_coffee 22 = .ok (.ishr, 1) := by decide +kernel
theorem dX9_coffee_23 : decode cX9_coffee 23 = .ok (.iconst 1, 1) := by decide +kernel
theorem dX9_coffee_24 : decode cX9_coffee 24 = .ok (.iand, 1) := by decide +kernel
theorem dX9_coffee_25 : decode cX9_coffee 25 = .ok (.ifCond .eq 6, 3) := by decide +kernel
theorem dX9_coffee_28 : decode cX9_coffee 28 = .ok (.ldc 180, 2) := by decide +kernel
theorem dX9_coffee_30 : decode cX9_coffee 30 = .ok (.ireturn, 1) := by decide +kernel
theorem dX9_coffee_31 : decode cX9_coffee 31 = .ok (.aload_n 0, 1) := by decide +kernel
theorem dX9_coffee_32 : decode cX9_coffee 32 = .ok (.getfield 33, 3) := by decide +kernel
theorem dX9_coffee_35 : decode cX9_coffee 35 = .ok (.aload_n 0, 1) := by decide +kernel
theorem dX9_coffee_36 : decode cX9_coffee 36 = .ok (.getfield 26, 3) := by decide +kernel
theorem dX9_coffee_39 : decode cX9_coffee 39 = .ok (.invokevirtual 182, 3) := by decide +kernel
theorem dX9_coffee_42 : decode cX9_coffee 42 = .ok (.aload_n 0, 1) := by decide +kernel
theorem dX9_coffee_43 : decode cX9_coffee 43 = .ok (.getfield 26, 3) := by decide +kernel
theorem dX9_coffee_46 : decode cX9_coffee 46 = .ok (.dup, 1) := by decide +kernel
theorem dX9_coffee_47 : decode cX9_coffee 47 = .ok (.getfield 139, 3) := by decide +kernel
theorem dX9_coffee_50 : decode cX9_coffee 50 = .ok (.iconst 1, 1) := by decide +kernel
theorem dX9_coffee_51 : decode cX9_coffee 51 = .ok (.iload_n 1, 1) := by decide +kernel
theorem dX9_coffee_52 : decode cX9_coffee 52 = .ok (.ishl, 1) := by decide +kernel
theorem dX9_coffee_53 : decode cX9_coffee 53 = .ok (.ior, 1) := by decide +kernel
theorem dX9_coffee_54 : decode cX9_coffee 54 = .ok (.putfield 139, 3) := by decide +kernel
theorem dX9_coffee_57 : decode cX9_coffee 57 = .ok (.aload_n 0, 1) := by decide +kernel
theorem dX9_coffee_58 : decode cX9_coffee 58 = .ok (.getfield 26, 3) := by decide +kernel
theorem dX9_coffee_61 : decode cX9_coffee 61 = .ok (.getfield 151, 3) := by decide +kernel
theorem dX9_coffee_64 : decode cX9_coffee 64 = .ok (.iload_n 1, 1) := by decide +kernel
theorem dX9_coffee_65 : decode cX9_coffee 65 = .ok (.aload_n 0, 1) := by decide +kernel
theorem dX9_coffee_66 : decode cX9_coffee 66 = .ok (.getfield 26, 3) := by decide +kernel
theorem dX9_coffee_69 : decode cX9_coffee 69 = .ok (.getfield 151, 3) := by decide +kernel
theorem dX9_coffee_72 : decode cX9_coffee 72 = .ok (.iload_n 1, 1) := by decide +kernel
theorem dX9_coffee_73 : decode cX9_coffee 73 = .ok (.iaload, 1) := by decide +kernel
theorem dX9_coffee_74 : decode cX9_coffee 74 = .ok (.invokestatic 190, 3) := by decide +kernel
theorem dX9_coffee_77 : decode cX9_coffee 77 = .ok (.iastore, 1) := by decide +kernel
theorem dX9_coffee_78 : decode cX9_coffee 78 = .ok (.aload_n 0, 1) := by decide +kernel
theorem dX9_coffee_79 : decode cX9_coffee 79 = .ok (.getfield 26, 3) := by decide +kernel
theorem dX9_coffee_82 : decode cX9_coffee 82 = .ok (.getfield 151, 3) := by decide +kernel
theorem dX9_coffee_85 : decode cX9_coffee 85 = .ok (.iload_n 1, 1) := by decide +kernel
theorem dX9_coffee_86 : decode cX9_coffee 86 = .ok (.iaload, 1) := by decide +kernel
theorem dX9_coffee_87 : decode cX9_coffee 87 = .ok (.ireturn, 1) := by decide +kernel
theorem dX9_rest_0 : decode cX9_rest 0 = .ok (.aload_n 0, 1) := by decide +kernel
theorem dX9_rest_1 : decode cX9_rest 1 = .ok (.iload_n 1, 1) := by decide +kernel
theorem dX9_rest_2 : decode cX9_rest 2 = .ok (.invokevirtual 194, 3) := by decide +kernel
theorem dX9_rest_5 : decode cX9_rest 5 = .ok (.istore_n 2, 1) := by decide +kernel
theorem dX9_rest_6 : decode cX9_rest 6 = .ok (.iload_n 2, 1) := by decide +kernel
theorem dX9_rest_7 : decode cX9_rest 7 = .ok (.iconst (-1), 1) := by decide +kernel
theorem dX9_rest_8 : decode cX9_rest 8 = .ok (.if_icmp .eq 5, 3) := by decide +kernel
theorem dX9_rest_11 : decode cX9_rest 11 = .ok (.iload_n 2, 1) := by decide +kernel
theorem dX9_rest_12 : decode cX9_rest 12 = .ok (.ireturn, 1) := by decide +kernel
theorem dX9_rest_13 : decode cX9_rest 13 = .ok (.aload_n 0, 1) := by decide +kernel
theorem dX9_rest_14 : decode cX9_rest 14 = .ok (.getfield 33, 3) := by decide +kernel
theorem dX9_rest_17 : decode cX9_rest 17 = .ok (.aload_n 0, 1) := by decide +kernel
theorem dX9_rest_18 : decode cX9_rest 18 = .ok (.getfield 26, 3) := by decide +kernel
theorem dX9_rest_21 : decode cX9_rest 21 = .ok (.invokevirtual 182, 3) := by decide +kernel
theorem dX9_rest_24 : decode cX9_rest 24 = .ok (.iconst 0, 1) := by decide +kernel
theorem dX9_rest_25 : decode cX9_rest 25 = .ok (.istore_n 3, 1) := by decide +kernel
theorem dX9_rest_26 : decode cX9_rest 26 = .ok (.iload_n 3, 1) := by decide +kernel
theorem dX9_rest_27 : decode cX9_rest 27 = .ok (.iload_n 1, 1) := by decide +kernel
theorem dX9_rest_28 : decode cX9_rest 28 = .ok (.if_icmp .ge 26, 3) := by decide +kernel
theorem dX9_rest_31 : decode cX9_rest 31 = .ok (.iload_n 3, 1) := by decide +kernel
theorem dX9_rest_32 : decode cX9_rest 32 = .ok (.bipush 60, 2) := by decide +kernel
theorem dX9_rest_34 : decode cX9_rest 34 = .ok (.if_icmp .ge 20, 3) := by decide +kernel
theorem dX9_rest_37 : decode cX9_rest 37 = .ok (.aload_n 0, 1) := by decide +kernel
theorem dX9_rest_38 : decode cX9_rest 38 = .ok (.getfield 26, 3) := by decide +kernel
theorem dX9_rest_41 : decode cX9_rest 41 = .ok (.aload_n 0, 1) := by decide +kernel
theorem dX9_rest_42 : decode cX9_rest 42 = .ok (.getfield 19, 3) := by decide +kernel
theorem dX9_rest_45 : decode cX9_rest 45 = .ok (.invokevirtual 197, 3) := by decide +kernel
theorem dX9_rest_48 : decode cX9_rest 48 = .ok (.iinc 3 1, 3) := by decide +kernel
theorem dX9_rest_51 : decode cX9_rest 51 = .ok (.goto (-25), 3) := by decide +kernel
theorem dX9_rest_54 : decode cX9_rest 54 = .ok (.aload_n 0, 1) := by decide +kernel
theorem dX9_rest_55 : decode cX9_rest 55 = .ok (.getfield 26, 3) := by decide +kernel
theorem dX9_rest_58 : decode cX9_rest 58 = .ok (.getfield 123, 3) := by decide +kernel
theorem dX9_rest_61 : decode cX9_rest 61 = .ok (.ireturn, 1) := by decide +kernel
theorem dX9_drift_0 : decode cX9_drift 0 = .ok (.aload_n 0, 1) := by decide +kernel
theorem dX9_drift_1 : decode cX9_drift 1 = .ok (.iload_n 1, 1) := by decide +kernel
theorem dX9_drift_2 : decode cX9_drift 2 = .ok (.invokevirtual 194, 3) := by decide +kernel
theorem dX9_drift_5 : decode cX9_drift 5 = .ok (.istore_n 2, 1) := by decide +kernel
theorem dX9_drift_6 : decode cX9_drift 6 = .ok (.iload_n 2, 1) := by decide +kernel
theorem dX9_drift_7 : decode cX9_drift 7 = .ok (.iconst (-1), 1) := by decide +kernel
theorem dX9_drift_8 : decode cX9_drift 8 = .ok (.if_icmp .eq 5, 3) := by decide +kernel
theorem dX9_drift_11 : decode cX9_drift 11 = .ok (.iload_n 2, 1) := by decide +kernel
theorem dX9_drift_12 : decode cX9_drift 12 = .ok (.ireturn, 1) := by decide +kernel
theorem dX9_drift_13 : decode cX9_drift 13 = .ok (.aload_n 0, 1) := by decide +kernel
theorem dX9_drift_14 : decode cX9_drift 14 = .ok (.getfield 33, 3) := by decide +kernel
theorem dX9_drift_17 : decode cX9_drift 17 = .ok (.aload_n 0, 1) := by decide +kernel
theorem dX9_drift_18 : decode cX9_drift 18 = .ok (.getfield 26, 3) := by decide +kernel
theorem dX9_drift_21 : decode cX9_drift 21 = .ok (.invokevirtual 182, 3) := by decide +kernel
theorem dX9_drift_24 : decode cX9_drift 24 = .ok (.iconst 0, 1) := by decide +kernel
theorem dX9_drift_25 : decode cX9_drift 25 = .ok (.istore_n 3, 1) := by decide +kernel
theorem dX9_drift_26 : decode cX9_drift 26 = .ok (.iload_n 3, 1) := by decide +kernel
theorem dX9_drift_27 : decode cX9_drift 27 = .ok (.iload_n 1, 1) := by decide +kernel
theorem dX9_drift_28 : decode cX9_drift 28 = .ok (.if_icmp .ge 66, 3) := by decide +kernel
theorem dX9_drift_31 : decode cX9_drift 31 = .ok (.iload_n 3, 1) := by decide +kernel
theorem dX9_drift_32 : decode cX9_drift 32 = .ok (.bipush 60, 2) := by decide +kernel
theorem dX9_drift_34 : decode cX9_drift 34 = .ok (.if_icmp .ge 60, 3) := by decide +kernel
theorem dX9_drift_37 : decode cX9_drift 37 = .ok (.aload_n 0, 1) := by decide +kernel
theorem dX9_drift_38 : decode cX9_drift 38 = .ok (.getfield 47, 3) := by decide +kernel
theorem dX9_drift_41 : decode cX9_drift 41 = .ok (.iconst 1, 1) := by decide +kernel
theorem dX9_drift_42 : decode cX9_drift 42 = .ok (.aload_n 0, 1) := by decide +kernel
theorem dX9_drift_43 : decode cX9_drift 43 = .ok (.getfield 19, 3) := by decide +kernel
theorem dX9_drift_46 : decode cX9_drift 46 = .ok (.getfield 102, 3) := by decide +kernel
theorem dX9_drift_49 : decode cX9_drift 49 = .ok (.ishl, 1) := by decide +kernel
theorem dX9_drift_50 : decode cX9_drift 50 = .ok (.invokevirtual 200, 3) := by decide +kernel
theorem dX9_drift_53 : decode cX9_drift 53 = .ok (.istore 4, 2) := by decide +kernel
theorem dX9_drift_55 : decode cX9_drift 55 = .ok (.aload_n 0, 1) := by decide +kernel
theorem dX9_drift_56 : decode cX9_drift 56 = .ok (.getfield 47, 3) := by decide +kernel
theorem dX9_drift_59 : decode cX9_drift 59 = .ok (.iconst 3, 1) := by decide +kernel
theorem dX9_drift_60 : decode cX9_drift 60 = .ok (.invokevirtual 200, 3) := by decide +kernel
theorem dX9_drift_63 : decode cX9_drift 63 = .ok (.ifCond .ne 7, 3) := by decide +kernel
theorem dX9_drift_66 : decode cX9_drift 66 = .ok (.iconst 1, 1) := by decide +kernel
theorem dX9_drift_67 : decode cX9_drift 67 = .ok (.goto 4, 3) := by decide +kernel
theorem dX9_drift_70 : decode cX9_drift 70 = .ok (.iconst 0, 1) := by decide +kernel
theorem dX9_drift_71 : decode cX9_drift 71 = .ok (.istore 5, 2) := by decide +kernel
theorem dX9_drift_73 : decode cX9_drift 73 = .ok (.aload_n 0, 1) := by decide +kernel
theorem dX9_drift_74 : decode cX9_drift 74 = .ok (.getfield 26, 3) := by decide +kernel
theorem dX9_drift_77 : decode cX9_drift 77 = .ok (.aload_n 0, 1) := by decide +kernel
theorem dX9_drift_78 : decode cX9_drift 78 = .ok (.getfield 19, 3) := by decide +kernel
theorem dX9_drift_81 : decode cX9_drift 81 = .ok (.iload 4, 2) := by decide +kernel
theorem dX9_drift_83 : decode cX9_drift 83 = .ok (.iload 5, 2) := by decide +kernel
theorem dX9_drift_85 : decode cX9_drift 85 = .ok (.invokevirtual 186, 3) := by decide +kernel
theorem dX9_drift_88 : decode cX9_drift 88 = .ok (.iinc 3 1, 3) := by decide +kernel
theorem dX9_drift_91 : decode cX9_drift 91 = .ok (.goto (-65), 3) := by decide +kernel
theorem dX9_drift_94 : decode cX9_drift 94 = .ok (.aload_n 0, 1) := by decide +kernel
theorem dX9_drift_95 : decode cX9_drift 95 = .ok (.getfield 26, 3) := by decide +kernel
theorem dX9_drift_98 : decode cX9_drift 98 = .ok (.getfield 123, 3) := by decide +kernel
theorem dX9_drift_101 : decode cX9_drift 101 = .ok (.ireturn, 1) := by decide +kernel
theorem dX9_undo_0 : decode cX9_undo 0 = .ok (.aload_n 0, 1) := by decide +kernel
theorem dX9_undo_1 : decode cX9_undo 1 = .ok (.getfield 33, 3) := by decide +kernel
theorem dX9_undo_4 : decode cX9_undo 4 = .ok (.aload_n 0, 1) := by decide +kernel
theorem dX9_undo_5 : decode cX9_undo 5 = .ok (.getfield 26, 3) := by decide +kernel
theorem dX9_undo_8 : decode cX9_undo 8 = .ok (.invokevirtual 203, 3) := by decide +kernel
theorem dX9_undo_11 : decode cX9_undo 11 = .ok (.ifCond .ne 6, 3) := by decide +kernel
theorem dX9_undo_14 : decode cX9_undo 14 = .ok (.ldc 180, 2) := by decide +kernel
theorem dX9_undo_16 : decode cX9_undo 16 = .ok (.ireturn, 1) := by decide +kernel
theorem dX9_undo_17 : decode cX9_undo 17 = .ok (.aload_n 0, 1) := by decide +kernel
theorem dX9_undo_18 : decode cX9_undo 18 = .ok (.getfield 33, 3) := by decide +kernel
theorem dX9_undo_21 : decode cX9_undo 21 = .ok (.getfield 146, 3) := by decide +kernel
theorem dX9_undo_24 : decode cX9_undo 24 = .ok (.ireturn, 1) := by decide +kernel
theorem dX9_watches_0 : decode cX9_watches 0 = .ok (.aload_n 0, 1) := by decide +kernel
theorem dX9_watches_1 : decode cX9_watches 1 = .ok (.getfield 19, 3) := by decide +kernel
theorem dX9_watches_4 : decode cX9_watches 4 = .ok (.invokevirtual 176, 3) := by decide +kernel
theorem dX9_watches_7 : decode cX9_watches 7 = .ok (.ifCond .ne 6, 3) := by decide +kernel
theorem dX9_watches_10 : decode cX9_watches 10 = .ok (.ldc 180, 2) := by decide +kernel
theorem dX9_watches_12 : decode cX9_watches 12 = .ok (.ireturn, 1) := by decide +kernel
theorem dX9_watches_13 : decode cX9_watches 13 = .ok (.aload_n 0, 1) := by decide +kernel
theorem dX9_watches_14 : decode cX9_watches 14 = .ok (.getfield 54, 3) := by decide +kernel
theorem dX9_watches_17 : decode cX9_watches 17 = .ok (.aload_n 0, 1) := by decide +kernel
theorem dX9_watches_18 : decode cX9_watches 18 = .ok (.getfield 19, 3) := by decide +kernel
theorem dX9_watches_21 : decode cX9_watches 21 = .ok (.aload_n 0, 1) := by decide +kernel
theorem dX9_watches_22 : decode cX9_watches 22 = .ok (.getfield 26, 3) := by decide +kernel
theorem dX9_watches_25 : decode cX9_watches 25 = .ok (.invokevirtual 207, 3) := by decide +kernel
theorem dX9_watches_28 : decode cX9_watches 28 = .ok (.ifCond .ne 5, 3) := by decide +kernel
theorem dX9_watches_31 : decode cX9_watches 31 = .ok (.iconst (-1), 1) := by decide +kernel
theorem dX9_watches_32 : decode cX9_watches 32 = .ok (.ireturn, 1) := by decide +kernel
theorem dX9_watches_33 : decode cX9_watches 33 = .ok (.iload_n 1, 1) := by decide +kernel
theorem dX9_watches_34 : decode cX9_watches 34 = .ok (.iconst (-1), 1) := by decide +kernel
theorem dX9_watches_35 : decode cX9_watches 35 = .ok (.if_icmp .ne 11, 3) := by decide +kernel
theorem dX9_watches_38 : decode cX9_watches 38 = .ok (.aload_n 0, 1) := by decide +kernel
theorem dX9_watches_39 : decode cX9_watches 39 = .ok (.getfield 54, 3) := by decide +kernel
theorem dX9_watches_42 : decode cX9_watches 42 = .ok (.getfield 211, 3) := by decide +kernel
theorem dX9_watches_45 : decode cX9_watches 45 = .ok (.ireturn, 1) := by decide +kernel
theorem dX9_watches_46 : decode cX9_watches 46 = .ok (.iload_n 1, 1) := by decide +kernel
theorem dX9_watches_47 : decode cX9_watches 47 = .ok (.ifCond .lt 20, 3) := by decide +kernel
theorem dX9_watches_50 : decode cX9_watches 50 = .ok (.iload_n 1, 1) := by decide +kernel
theorem dX9_watches_51 : decode cX9_watches 51 = .ok (.aload_n 0, 1) := by decide +kernel
theorem dX9_watches_52 : decode cX9_watches 52 = .ok (.getfield 19, 3) := by decide +kernel
theorem dX9_watches_55 : decode cX9_watches 55 = .ok (.getfield 108, 3) := by decide +kernel
theorem dX9_watches_58 : decode cX9_watches 58 = .ok (.if_icmp .ge 9, 3) := by decide +kernel
theorem dX9_watches_61 : decode cX9_watches 61 = .ok (.iload_n 1, 1) := by decide +kernel
theorem dX9_watches_62 : decode cX9_watches 62 = .ok (.bipush 6, 2) := by decide +kernel
theorem dX9_watches_64 : decode cX9_watches 64 = .ok (.if_icmp .lt 5, 3) := by decide +kernel
theorem dX9_watches_67 : decode cX9_watches 67 = .ok (.iconst (-1), 1) := by decide +kernel
theorem dX9_watches_68 : decode cX9_watches 68 = .ok (.ireturn, 1) := by decide +kernel
theorem dX9_watches_69 : decode cX9_watches 69 = .ok (.aload_n 0, 1) := by decide +kernel
theorem dX9_watches_70 : decode cX9_watches 70 = .ok (.getfield 54, 3) := by decide +kernel
theorem dX9_watches_73 : decode cX9_watches 73 = .ok (.getfield 214, 3) := by decide +kernel
theorem dX9_watches_76 : decode cX9_watches 76 = .ok (.iload_n 1, 1) := by decide +kernel
theorem dX9_watches_77 : decode cX9_watches 77 = .ok (.iaload, 1) := by decide +kernel
theorem dX9_watches_78 : decode cX9_watches 78 = .ok (.ireturn, 1) := by decide +kernel
theorem dX9_bellHour_0 : decode cX9_bellHour 0 = .ok (.iload_n 1, 1) := by decide +kernel
theorem dX9_bellHour_1 : decode cX9_bellHour 1 = .ok (.ifCond .eq 11, 3) := by decide +kernel
theorem dX9_bellHour_4 : decode cX9_bellHour 4 = .ok (.iload_n 1, 1) := by decide +kernel
theorem dX9_bellHour_5 : decode cX9_bellHour 5 = .ok (.iconst 1, 1) := by decide +kernel
theorem dX9_bellHour_6 : decode cX9_bellHour 6 = .ok (.if_icmp .eq 6, 3) := by decide +kernel
theorem dX9_bellHour_9 : decode cX9_bellHour 9 = .ok (.ldc 72, 2) := by decide +kernel
theorem dX9_bellHour_11 : decode cX9_bellHour 11 = .ok (.ireturn, 1) := by decide +kernel
theorem dX9_bellHour_12 : decode cX9_bellHour 12 = .ok (.aload_n 0, 1) := by decide +kernel
theorem dX9_bellHour_13 : decode cX9_bellHour 13 = .ok (.getfield 19, 3) := by decide +kernel
theorem dX9_bellHour_16 : decode cX9_bellHour 16 = .ok (.invokevirtual 176, 3) := by decide +kernel
theorem dX9_bellHour_19 : decode cX9_bellHour 19 = .ok (.ifCond .ne 6, 3) := by decide +kernel
theorem dX9_bellHour_22 : decode cX9_bellHour 22 = .ok (.ldc 180, 2) := by decide +kernel
theorem dX9_bellHour_24 : decode cX9_bellHour 24 = .ok (.ireturn, 1) := by decide +kernel
theorem dX9_bellHour_25 : decode cX9_bellHour 25 = .ok (.iconst 0, 1) := by decide +kernel
theorem dX9_bellHour_26 : decode cX9_bellHour 26 = .ok (.istore_n 2, 1) := by decide +kernel
theorem dX9_bellHour_27 : decode cX9_bellHour 27 = .ok (.aload_n 0, 1) := by decide +kernel
theorem dX9_bellHour_28 : decode cX9_bellHour 28 = .ok (.getfield 54, 3) := by decide +kernel
theorem dX9_bellHour_31 : decode cX9_bellHour 31 = .ok (.aload_n 0, 1) := by decide +kernel
theorem dX9_bellHour_32 : decode cX9_bellHour 32 = .ok (.getfield 19, 3) := by decide +kernel
theorem dX9_bellHour_35 : decode cX9_bellHour 35 = .ok (.aload_n 0, 1) := by decide +kernel
theorem dX9_bellHour_36 : decode cX9_bellHour 36 = .ok (.getfield 26, 3) := by decide +kernel
theorem dX9_bellHour_39 : decode cX9_bellHour 39 = .ok (.iconst 0, 1) := by decide +kernel
theorem dX9_bellHour_40 : decode cX9_bellHour 40 = .ok (.invokevirtual 217, 3) := by decide +kernel
theorem dX9_bellHour_43 : decode cX9_bellHour 43 = .ok (.istore_n 3, 1) := by decide +kernel
theorem dX9_bellHour_44 : decode cX9_bellHour 44 = .ok (.iconst 1, 1) := by decide +kernel
theorem dX9_bellHour_45 : decode cX9_bellHour 45 = .ok (.istore 4, 2) := by decide +kernel
theorem dX9_bellHour_47 : decode cX9_bellHour 47 = .ok (.iload 4, 2) := by decide +kernel
theorem dX9_bellHour_49 : decode cX9_bellHour 49 = .ok (.aload_n 0, 1) := by decide +kernel
theorem dX9_bellHour_50 : decode cX9_bellHour 50 = .ok (.getfield 19, 3) := by decide +kernel
theorem dX9_bellHour_53 : decode cX9_bellHour 53 = .ok (.getfield 108, 3) := by decide +kernel
theorem dX9_bellHour_56 : decode cX9_bellHour 56 = .ok (.if_icmp .ge 47, 3) := by decide +kernel
theorem dX9_bellHour_59 : decode cX9_bellHour 59 = .ok (.iload 4, 2) := by decide +kernel
theorem dX9_bellHour_61 : decode cX9_bellHour 61 = .ok (.bipush 6, 2) := by decide +kernel
theorem dX9_bellHour_63 : decode cX9_bellHour 63 = .ok (.if_icmp .ge 40, 3) := by decide +kernel
theorem dX9_bellHour_66 : decode cX9_bellHour 66 = .ok (.aload_n 0, 1) := by decide +kernel
theorem dX9_bellHour_67 : decode cX9_bellHour 67 = .ok (.getfield 54, 3) := by decide +kernel
theorem dX9_bellHour_70 : decode cX9_bellHour 70 = .ok (.aload_n 0, 1) := by decide +kernel
theorem dX9_bellHour_71 : decode cX9_bellHour 71 = .ok (.getfield 19, 3) := by decide +kernel
theorem dX9_bellHour_74 : decode cX9_bellHour 74 = .ok (.aload_n 0, 1) := by decide +kernel
theorem dX9_bellHour_75 : decode cX9_bellHour 75 = .ok (.getfield 26, 3) := by decide +kernel
theorem dX9_bellHour_78 : decode cX9_bellHour 78 = .ok (.iload 4, 2) := by decide +kernel
theorem dX9_bellHour_80 : decode cX9_bellHour 80 = .ok (.invokevirtual 217, 3) := by decide +kernel
theorem dX9_bellHour_83 : decode cX9_bellHour 83 = .ok (.istore 5, 2) := by decide +kernel
theorem dX9_bellHour_85 : decode cX9_bellHour 85 = .ok (.iload 5, 2) := by decide +kernel
theorem dX9_bellHour_87 : decode cX9_bellHour 87 = .ok (.iload_n 3, 1) := by decide +kernel
theorem dX9_bellHour_88 : decode cX9_bellHour 88 = .ok (.if_icmp .ge 9, 3) := by decide +kernel
theorem dX9_bellHour_91 : decode cX9_bellHour 91 = .ok (.iload 5, 2) := by decide +kernel
theorem dX9_bellHour_93 : decode cX9_bellHour 93 = .ok (.istore_n 3, 1) := by decide +kernel
theorem dX9_bellHour_94 : decode cX9_bellHour 94 = .ok (.iload 4, 2) := by decide +kernel
theorem dX9_bellHour_96 : decode cX9_bellHour 96 = .ok (.istore_n 2, 1) := by decide +kernel
theorem dX9_bellHour_97 : decode cX9_bellHour 97 = .ok (.iinc 4 1, 3) := by decide +kernel
theorem dX9_bellHour_100 : decode cX9_bellHour 100 = .ok (.goto (-53), 3) := by decide +kernel
theorem dX9_bellHour_103 : decode cX9_bellHour 103 = .ok (.iload_n 1, 1) := by decide +kernel
theorem dX9_bellHour_104 : decode cX9_bellHour 104 = .ok (.ifCond .ne 7, 3) := by decide +kernel
theorem dX9_bellHour_107 : decode cX9_bellHour 107 = .ok (.iload_n 2, 1) := by decide +kernel
theorem dX9_bellHour_108 : decode cX9_bellHour 108 = .ok (.goto 4, 3) := by decide +kernel
theorem dX9_bellHour_111 : decode cX9_bellHour 111 = .ok (.iload_n 3, 1) := by decide +kernel
theorem dX9_bellHour_112 : decode cX9_bellHour 112 = .ok (.ireturn, 1) := by decide +kernel
theorem dX9_coffeeFor_0 : decode cX9_coffeeFor 0 = .ok (.aload_n 0, 1) := by decide +kernel
theorem dX9_coffeeFor_1 : decode cX9_coffeeFor 1 = .ok (.getfield 19, 3) := by decide +kernel
theorem dX9_coffeeFor_4 : decode cX9_coffeeFor 4 = .ok (.invokevirtual 176, 3) := by decide +kernel
theorem dX9_coffeeFor_7 : decode cX9_coffeeFor 7 = .ok (.ifCond .ne 6, 3) := by decide +kernel
theorem dX9_coffeeFor_10 : decode cX9_coffeeFor 10 = .ok (.ldc 180, 2) := by decide +kernel
theorem dX9_coffeeFor_12 : decode cX9_coffeeFor 12 = .ok (.ireturn, 1) := by decide +kernel
theorem dX9_coffeeFor_13 : decode cX9_coffeeFor 13 = .ok (.iconst (-1), 1) := by decide +kernel
theorem dX9_coffeeFor_14 : decode cX9_coffeeFor 14 = .ok (.istore_n 1, 1) := by decide +kernel
theorem dX9_coffeeFor_15 : decode cX9_coffeeFor 15 = .ok (.iconst 0, 1) := by decide +kernel
theorem dX9_coffeeFor_16 : decode cX9_coffeeFor 16 = .ok (.istore_n 2, 1) := by decide +kernel
theorem dX9_coffeeFor_17 : decode cX9_coffeeFor 17 = .ok (.iconst 0, 1) := by decide +kernel
theorem dX9_coffeeFor_18 : decode cX9_coffeeFor 18 = .ok (.istore_n 3, 1) := by decide +kernel
theorem dX9_coffeeFor_19 : decode cX9_coffeeFor 19 = .ok (.iload_n 3, 1) := by decide +kernel
theorem dX9_coffeeFor_20 : decode cX9_coffeeFor 20 = .ok (.aload_n 0, 1) := by decide +kernel
theorem dX9_coffeeFor_21 : decode cX9_coffeeFor 21 = .ok (.getfield 19, 3) := by decide +kernel
theorem dX9_coffeeFor_24 : decode cX9_coffeeFor 24 = .ok (.getfield 102, 3) := by decide +kernel
theorem dX9_coffeeFor_27 : decode cX9_coffeeFor 27 = .ok (.if_icmp .ge 49, 3) := by decide +kernel
theorem dX9_coffeeFor_30 : decode cX9_coffeeFor 30 = .ok (.iload_n 3, 1) := by decide +kernel
theorem dX9_coffeeFor_31 : decode cX9_coffeeFor 31 = .ok (.bipush 6, 2) := by decide +kernel
theorem dX9_coffeeFor_33 : decode cX9_coffeeFor 33 = .ok (.if_icmp .ge 43, 3) := by decide +kernel
theorem dX9_coffeeFor_36 : decode cX9_coffeeFor 36 = .ok (.aload_n 0, 1) := by decide +kernel
theorem dX9_coffeeFor_37 : decode cX9_coffeeFor 37 = .ok (.getfield 54, 3) := by decide +kernel
theorem dX9_coffeeFor_40 : decode cX9_coffeeFor 40 = .ok (.aload_n 0, 1) := by decide +kernel
theorem dX9_coffeeFor_41 : decode cX9_coffeeFor 41 = .ok (.getfield 19, 3) := by decide +kernel
theorem dX9_coffeeFor_44 : decode cX9_coffeeFor 44 = .ok (.aload_n 0, 1) := by decide +kernel
theorem dX9_coffeeFor_45 : decode cX9_coffeeFor 45 = .ok (.getfield 26, 3) := by decide +kernel
theorem dX9_coffeeFor_48 : decode cX9_coffeeFor 48 = .ok (.iload_n 3, 1) := by decide +kernel
theorem dX9_coffeeFor_49 : decode cX9_coffeeFor 49 = .ok (.invokevirtual 221, 3) := by decide +kernel
theorem dX9_coffeeFor_52 : decode cX9_coffeeFor 52 = .ok (.istore 4, 2) := by decide +kernel
theorem dX9_coffeeFor_54 : decode cX9_coffeeFor 54 = .ok (.iload_n 1, 1) := by decide +kernel
theorem dX9_coffeeFor_55 : decode cX9_coffeeFor 55 = .ok (.iconst (-1), 1) := by decide +kernel
theorem dX9_coffeeFor_56 : decode cX9_coffeeFor 56 = .ok (.if_icmp .eq 9, 3) := by decide +kernel
theorem dX9_coffeeFor_59 : decode cX9_coffeeFor 59 = .ok (.iload 4, 2) := by decide +kernel
theorem dX9_coffeeFor_61 : decode cX9_coffeeFor 61 = .ok (.iload_n 2, 1) := by decide +kernel
theorem dX9_coffeeFor_62 : decode cX9_coffeeFor 62 = .ok (.if_icmp .ge 8, 3) := by decide +kernel
theorem dX9_coffeeFor_65 : decode cX9_coffeeFor 65 = .ok (.iload 4, 2) := by decide +kernel
theorem dX9_coffeeFor_67 : decode cX9_coffeeFor 67 = .ok (.istore_n 2, 1) := by decide +kernel
theorem dX9_coffeeFor_68 : decode cX9_coffeeFor 68 = .ok (.iload_n 3, 1) := by decide +kernel
theorem dX9_coffeeFor_69 : decode cX9_coffeeFor 69 = .ok (.istore_n 1, 1) := by decide +kernel
theorem dX9_coffeeFor_70 : decode cX9_coffeeFor 70 = .ok (.iinc 3 1, 3) := by decide +kernel
theorem dX9_coffeeFor_73 : decode cX9_coffeeFor 73 = .ok (.goto (-54), 3) := by decide +kernel
theorem dX9_coffeeFor_76 : decode cX9_coffeeFor 76 = .ok (.iload_n 1, 1) := by decide +kernel
theorem dX9_coffeeFor_77 : decode cX9_coffeeFor 77 = .ok (.ireturn, 1) := by decide +kernel
theorem dX9_nights_0 : decode cX9_nights 0 = .ok (.aload_n 0, 1) := by decide +kernel
theorem dX9_nights_1 : decode cX9_nights 1 = .ok (.getfield 19, 3) := by decide +kernel
theorem dX9_nights_4 : decode cX9_nights 4 = .ok (.iload_n 1, 1) := by decide +kernel
theorem dX9_nights_5 : decode cX9_nights 5 = .ok (.invokevirtual 147, 3) := by decide +kernel
theorem dX9_nights_8 : decode cX9_nights 8 = .ok (.ifCond .ne 6, 3) := by decide +kernel
theorem dX9_nights_11 : decode cX9_nights 11 = .ok (.ldc 150, 2) := by decide +kernel
theorem dX9_nights_13 : decode cX9_nights 13 = .ok (.ireturn, 1) := by decide +kernel
theorem dX9_nights_14 : decode cX9_nights 14 = .ok (.aload_n 0, 1) := by decide +kernel
theorem dX9_nights_15 : decode cX9_nights 15 = .ok (.getfield 54, 3) := by decide +kernel
theorem dX9_nights_18 : decode cX9_nights 18 = .ok (.aload_n 0, 1) := by decide +kernel
theorem dX9_nights_19 : decode cX9_nights 19 = .ok (.getfield 19, 3) := by decide +kernel
theorem dX9_nights_22 : decode cX9_nights 22 = .ok (.aload_n 0, 1) := by decide +kernel
theorem dX9_nights_23 : decode cX9_nights 23 = .ok (.getfield 26, 3) := by decide +kernel
theorem dX9_nights_26 : decode cX9_nights 26 = .ok (.iload_n 1, 1) := by decide +kernel
theorem dX9_nights_27 : decode cX9_nights 27 = .ok (.invokevirtual 224, 3) := by decide +kernel
theorem dX9_nights_30 : decode cX9_nights 30 = .ok (.ireturn, 1) := by decide +kernel
theorem dX9_hold_0 : decode cX9_hold 0 = .ok (.aload_n 0, 1) := by decide +kernel
theorem dX9_hold_1 : decode cX9_hold 1 = .ok (.getfield 19, 3) := by decide +kernel
theorem dX9_hold_4 : decode cX9_hold 4 = .ok (.invokevirtual 176, 3) := by decide +kernel
theorem dX9_hold_7 : decode cX9_hold 7 = .ok (.ifCond .ne 6, 3) := by decide +kernel
theorem dX9_hold_10 : decode cX9_hold 10 = .ok (.ldc 180, 2) := by decide +kernel
theorem dX9_hold_12 : decode cX9_hold 12 = .ok (.ireturn, 1) := by decide +kernel
theorem dX9_hold_13 : decode cX9_hold 13 = .ok (.aload_n 0, 1) := by decide +kernel
theorem dX9_hold_14 : decode cX9_hold 14 = .ok (.getfield 54, 3) := by decide +kernel
theorem dX9_hold_17 : decode cX9_hold 17 = .ok (.aload_n 0, 1) := by decide +kernel
theorem dX9_hold_18 : decode cX9_hold 18 = .ok (.getfield 19, 3) := by decide +kernel
theorem dX9_hold_21 : decode cX9_hold 21 = .ok (.aload_n 0, 1) := by decide +kernel
theorem dX9_hold_22 : decode cX9_hold 22 = .ok (.getfield 26, 3) := by decide +kernel
theorem dX9_hold_25 : decode cX9_hold 25 = .ok (.invokevirtual 227, 3) := by decide +kernel
theorem dX9_hold_28 : decode cX9_hold 28 = .ok (.ireturn, 1) := by decide +kernel
theorem dX9_share_0 : decode cX9_share 0 = .ok (.aload_n 0, 1) := by decide +kernel
theorem dX9_share_1 : decode cX9_share 1 = .ok (.getfield 19, 3) := by decide +kernel
theorem dX9_share_4 : decode cX9_share 4 = .ok (.iload_n 1, 1) := by decide +kernel
theorem dX9_share_5 : decode cX9_share 5 = .ok (.invokevirtual 147, 3) := by decide +kernel
theorem dX9_share_8 : decode cX9_share 8 = .ok (.ifCond .ne 6, 3) := by decide +kernel
theorem dX9_share_11 : decode cX9_share 11 = .ok (.ldc 150, 2) := by decide +kernel
theorem dX9_share_13 : decode cX9_share 13 = .ok (.ireturn, 1) := by decide +kernel
theorem dX9_share_14 : decode cX9_share 14 = .ok (.aload_n 0, 1) := by decide +kernel
theorem dX9_share_15 : decode cX9_share 15 = .ok (.getfield 26, 3) := by decide +kernel
theorem dX9_share_18 : decode cX9_share 18 = .ok (.iload_n 1, 1) := by decide +kernel
theorem dX9_share_19 : decode cX9_share 19 = .ok (.sipush 1000, 3) := by decide +kernel
theorem dX9_share_22 : decode cX9_share 22 = .ok (.invokevirtual 231, 3) := by decide +kernel
theorem dX9_share_25 : decode cX9_share 25 = .ok (.ireturn, 1) := by decide +kernel
theorem dX9_paid_0 : decode cX9_paid 0 = .ok (.aload_n 0, 1) := by decide +kernel
theorem dX9_paid_1 : decode cX9_paid 1 = .ok (.getfield 19, 3) := by decide +kernel
theorem dX9_paid_4 : decode cX9_paid 4 = .ok (.iload_n 1, 1) := by decide +kernel
theorem dX9_paid_5 : decode cX9_paid 5 = .ok (.invokevirtual 147, 3) := by decide +kernel
theorem dX9_paid_8 : decode cX9_paid 8 = .ok (.ifCond .ne 6, 3) := by decide +kernel
theorem dX9_paid_11 : decode cX9_paid 11 = .ok (.ldc 150, 2) := by decide +kernel
theorem dX9_paid_13 : decode cX9_paid 13 = .ok (.ireturn, 1) := by decide +kernel
theorem dX9_paid_14 : decode cX9_paid 14 = .ok (.aload_n 0, 1) := by decide +kernel
theorem dX9_paid_15 : decode cX9_paid 15 = .ok (.getfield 26, 3) := by decide +kernel
theorem dX9_paid_18 : decode cX9_paid 18 = .ok (.iload_n 1, 1) := by decide +kernel
theorem dX9_paid_19 : decode cX9_paid 19 = .ok (.iconst 0, 1) := by decide +kernel
theorem dX9_paid_20 : decode cX9_paid 20 = .ok (.aload_n 0, 1) := by decide +kernel
theorem dX9_paid_21 : decode cX9_paid 21 = .ok (.getfield 26, 3) := by decide +kernel
theorem dX9_paid_24 : decode cX9_paid 24 = .ok (.getfield 126, 3) := by decide +kernel
theorem dX9_paid_27 : decode cX9_paid 27 = .ok (.aload_n 0, 1) := by decide +kernel
theorem dX9_paid_28 : decode cX9_paid 28 = .ok (.getfield 26, 3) := by decide +kernel
theorem dX9_paid_31 : decode cX9_paid 31 = .ok (.getfield 127, 3) := by decide +kernel
theorem dX9_paid_34 : decode cX9_paid 34 = .ok (.isub, 1) := by decide +kernel
theorem dX9_paid_35 : decode cX9_paid 35 = .ok (.invokestatic 235, 3) := by decide +kernel
theorem dX9_paid_38 : decode cX9_paid 38 = .ok (.invokevirtual 231, 3) := by decide +kernel
theorem dX9_paid_41 : decode cX9_paid 41 = .ok (.ireturn, 1) := by decide +kernel
theorem dX9_blink_0 : decode cX9_blink 0 = .ok (.aload_n 0, 1) := by decide +kernel
theorem dX9_blink_1 : decode cX9_blink 1 = .ok (.getfield 19, 3) := by decide +kernel
theorem dX9_blink_4 : decode cX9_blink 4 = .ok (.iload_n 1, 1) := by decide +kernel
theorem dX9_blink_5 : decode cX9_blink 5 = .ok (.invokevirtual 147, 3) := by decide +kernel
theorem dX9_blink_8 : decode cX9_blink 8 = .ok (.ifCond .ne 6, 3) := by decide +kernel
theorem dX9_blink_11 : decode cX9_blink 11 = .ok (.ldc 150, 2) := by decide +kernel
theorem dX9_blink_13 : decode cX9_blink 13 = .ok (.ireturn, 1) := by decide +kernel
theorem dX9_blink_14 : decode cX9_blink 14 = .ok (.iload_n 2, 1) := by decide +kernel
theorem dX9_blink_15 : decode cX9_blink 15 = .ok (.ifCond .lt 19, 3) := by decide +kernel
theorem dX9_blink_18 : decode cX9_blink 18 = .ok (.iload_n 2, 1) := by decide +kernel
theorem dX9_blink_19 : decode cX9_blink 19 = .ok (.bipush 60, 2) := by decide +kernel
theorem dX9_blink_21 : decode cX9_blink 21 = .ok (.if_icmp .gt 13, 3) := by decide +kernel
theorem dX9_blink_24 : decode cX9_blink 24 = .ok (.iload_n 3, 1) := by decide +kernel
theorem dX9_blink_25 : decode cX9_blink 25 = .ok (.ifCond .lt 9, 3) := by decide +kernel
theorem dX9_blink_28 : decode cX9_blink 28 = .ok (.iload_n 3, 1) := by decide +kernel
theorem dX9_blink_29 : decode cX9_blink 29 = .ok (.bipush 100, 2) := by decide +kernel
theorem dX9_blink_31 : decode cX9_blink 31 = .ok (.if_icmp .le 6, 3) := by decide +kernel
theorem dX9_blink_34 : decode cX9_blink 34 = .ok (.ldc 72, 2) := by decide +kernel
theorem dX9_blink_36 : decode cX9_blink 36 = .ok (.ireturn, 1) := by decide +kernel
theorem dX9_blink_37 : decode cX9_blink 37 = .ok (.bipush 100, 2) := by decide +kernel
theorem dX9_blink_39 : decode cX9_blink 39 = .ok (.iload_n 3, 1) := by decide +kernel
theorem dX9_blink_40 : decode cX9_blink 40 = .ok (.aload_n 0, 1) := by decide +kernel
theorem dX9_blink_41 : decode cX9_blink 41 = .ok (.getfield 26, 3) := by decide +kernel
theorem dX9_blink_44 : decode cX9_blink 44 = .ok (.getfield 151, 3) := by decide +kernel
theorem dX9_blink_47 : decode cX9_blink 47 = .ok (.iload_n 1, 1) := by decide +kernel
theorem dX9_blink_48 : decode cX9_blink 48 = .ok (.iaload, 1) := by decide +kernel
theorem dX9_blink_49 : decode cX9_blink 49 = .ok (.bipush 10, 2) := by decide +kernel
theorem dX9_blink_51 : decode cX9_blink 51 = .ok (.idiv, 1) := by decide +kernel
theorem dX9_blink_52 : decode cX9_blink 52 = .ok (.iadd, 1) := by decide +kernel
theorem dX9_blink_53 : decode cX9_blink 53 = .ok (.invokestatic 240, 3) := by decide +kernel
theorem dX9_blink_56 : decode cX9_blink 56 = .ok (.istore 4, 2) := by decide +kernel
theorem dX9_blink_58 : decode cX9_blink 58 = .ok (.ldc2_w 243, 3) := by decide +kernel
theorem dX9_blink_61 : decode cX9_blink 61 = .ok (.lstore 5, 2) := by decide +kernel
theorem dX9_blink_63 : decode cX9_blink 63 = .ok (.iconst 0, 1) := by decide +kernel
theorem dX9_blink_64 : decode cX9_blink 64 = .ok (.istore 7, 2) := by decide +kernel
theorem dX9_blink_66 : decode cX9_blink 66 = .ok (.iload 7, 2) := by decide +kernel
theorem dX9_blink_68 : decode cX9_blink 68 = .ok (.iload_n 2, 1) := by decide +kernel
theorem dX9_blink_69 : decode cX9_blink 69 = .ok (.if_icmp .ge 31, 3) := by decide +kernel
theorem dX9_blink_72 : decode cX9_blink 72 = .ok (.iload 7, 2) := by decide +kernel
theorem dX9_blink_74 : decode cX9_blink 74 = .ok (.bipush 60, 2) := by decide +kernel
theorem dX9_blink_76 : decode cX9_blink 76 = .ok (.if_icmp .ge 24, 3) := by decide +kernel
theorem dX9_blink_79 : decode cX9_blink 79 = .ok (.lload 5, 2) := by decide +kernel
theorem dX9_blink_81 : decode cX9_blink 81 = .ok (.bipush 100, 2) := by decide +kernel
theorem dX9_blink_83 : decode cX9_blink 83 = .ok (.iload 4, 2) := by decide +kernel
theorem dX9_blink_85 : decode cX9_blink 85 = .ok (.isub, 1) := by decide +kernel
theorem dX9_blink_86 : decode cX9_blink 86 = .ok (.i2l, 1) := by decide +kernel
theorem dX9_blink_87 : decode cX9_blink 87 = .ok (.lmul, 1) := by decide +kernel
theorem dX9_blink_88 : decode cX9_blink 88 = .ok (.ldc2_w 245, 3) := by decide +kernel
theorem dX9_blink_91 : decode cX9_blink 91 = .ok (.ldiv, 1) := by decide +kernel
theorem dX9_blink_92 : decode cX9_blink 92 = .ok (.lstore 5, 2) := by decide +kernel
theorem dX9_blink_94 : decode cX9_blink 94 = .ok (.iinc 7 1, 3) := by decide +kernel
theorem dX9_blink_97 : decode cX9_blink 97 = .ok (.goto (-31), 3) := by decide +kernel
theorem dX9_blink_100 : decode cX9_blink 100 = .ok (.lload 5, 2) := by decide +kernel
theorem dX9_blink_102 : decode cX9_blink 102 = .ok (.l2i, 1) := by decide +kernel
theorem dX9_blink_103 : decode cX9_blink 103 = .ok (.ireturn, 1) := by decide +kernel
theorem dX9_see_0 : decode cX9_see 0 = .ok (.aload_n 0, 1) := by decide +kernel
theorem dX9_see_1 : decode cX9_see 1 = .ok (.getfield 19, 3) := by decide +kernel
theorem dX9_see_4 : decode cX9_see 4 = .ok (.iload_n 1, 1) := by decide +kernel
theorem dX9_see_5 : decode cX9_see 5 = .ok (.invokevirtual 167, 3) := by decide +kernel
theorem dX9_see_8 : decode cX9_see 8 = .ok (.ifCond .ne 6, 3) := by decide +kernel
theorem dX9_see_11 : decode cX9_see 11 = .ok (.ldc 150, 2) := by decide +kernel
theorem dX9_see_13 : decode cX9_see 13 = .ok (.ireturn, 1) := by decide +kernel
theorem dX9_see_14 : decode cX9_see 14 = .ok (.aload_n 0, 1) := by decide +kernel
theorem dX9_see_15 : decode cX9_see 15 = .ok (.getfield 61, 3) := by decide +kernel
theorem dX9_see_18 : decode cX9_see 18 = .ok (.iload_n 1, 1) := by decide +kernel
theorem dX9_see_19 : decode cX9_see 19 = .ok (.iload_n 2, 1) := by decide +kernel
theorem dX9_see_20 : decode cX9_see 20 = .ok (.invokevirtual 247, 3) := by decide +kernel
theorem dX9_see_23 : decode cX9_see 23 = .ok (.ifCond .ne 6, 3) := by decide +kernel
theorem dX9_see_26 : decode cX9_see 26 = .ok (.ldc 77, 2) := by decide +kernel
theorem dX9_see_28 : decode cX9_see 28 = .ok (.ireturn, 1) := by decide +kernel
theorem dX9_see_29 : decode cX9_see 29 = .ok (.aload_n 0, 1) := by decide +kernel
theorem dX9_see_30 : decode cX9_see 30 = .ok (.getfield 61, 3) := by decide +kernel
theorem dX9_see_33 : decode cX9_see 33 = .ok (.getfield 142, 3) := by decide +kernel
theorem dX9_see_36 : decode cX9_see 36 = .ok (.ireturn, 1) := by decide +kernel
theorem dX9_nodded_0 : decode cX9_nodded 0 = .ok (.aload_n 0, 1) := by decide +kernel
theorem dX9_nodded_1 : decode cX9_nodded 1 = .ok (.getfield 19, 3) := by decide +kernel
theorem dX9_nodded_4 : decode cX9_nodded 4 = .ok (.iload_n 1, 1) := by decide +kernel
theorem dX9_nodded_5 : decode cX9_nodded 5 = .ok (.invokevirtual 173, 3) := by decide +kernel
theorem dX9_nodded_8 : decode cX9_nodded 8 = .ok (.ifCond .ne 6, 3) := by decide +kernel
theorem dX9_nodded_11 : decode cX9_nodded 11 = .ok (.ldc 150, 2) := by decide +kernel
theorem dX9_nodded_13 : decode cX9_nodded 13 = .ok (.ireturn, 1) := by decide +kernel
theorem dX9_nodded_14 : decode cX9_nodded 14 = .ok (.iload_n 2, 1) := by decide +kernel
theorem dX9_nodded_15 : decode cX9_nodded 15 = .ok (.iconst (-1), 1) := by decide +kernel
theorem dX9_nodded_16 : decode cX9_nodded 16 = .ok (.if_icmp .ne 16, 3) := by decide +kernel
theorem dX9_nodded_19 : decode cX9_nodded 19 = .ok (.aload_n 0, 1) := by decide +kernel
theorem dX9_nodded_20 : decode cX9_nodded 20 = .ok (.getfield 61, 3) := by decide +kernel
theorem dX9_nodded_23 : decode cX9_nodded 23 = .ok (.aload_n 0, 1) := by decide +kernel
theorem dX9_nodded_24 : decode cX9_nodded 24 = .ok (.getfield 19, 3) := by decide +kernel
theorem dX9_nodded_27 : decode cX9_nodded 27 = .ok (.iload_n 1, 1) := by decide +kernel
theorem dX9_nodded_28 : decode cX9_nodded 28 = .ok (.invokevirtual 250, 3) := by decide +kernel
theorem dX9_nodded_31 : decode cX9_nodded 31 = .ok (.ireturn, 1) := by decide +kernel
theorem dX9_nodded_32 : decode cX9_nodded 32 = .ok (.iload_n 2, 1) := by decide +kernel
theorem dX9_nodded_33 : decode cX9_nodded 33 = .ok (.bipush (-2), 2) := by decide +kernel
theorem dX9_nodded_35 : decode cX9_nodded 35 = .ok (.if_icmp .ne 16, 3) := by decide +kernel
theorem dX9_nodded_38 : decode cX9_nodded 38 = .ok (.aload_n 0, 1) := by decide +kernel
theorem dX9_nodded_39 : decode cX9_nodded 39 = .ok (.getfield 61, 3) := by decide +kernel
theorem dX9_nodded_42 : decode cX9_nodded 42 = .ok (.aload_n 0, 1) := by decide +kernel
theorem dX9_nodded_43 : decode cX9_nodded 43 = .ok (.getfield 19, 3) := by decide +kernel
theorem dX9_nodded_46 : decode cX9_nodded 46 = .ok (.iload_n 1, 1) := by decide +kernel
theorem dX9_nodded_47 : decode cX9_nodded 47 = .ok (.invokevirtual 254, 3) := by decide +kernel
theorem dX9_nodded_50 : decode cX9_nodded 50 = .ok (.ireturn, 1) := by decide +kernel
theorem dX9_nodded_51 : decode cX9_nodded 51 = .ok (.aload_n 0, 1) := by decide +kernel
theorem dX9_nodded_52 : decode cX9_nodded 52 = .ok (.getfield 61, 3) := by decide +kernel
theorem dX9_nodded_55 : decode cX9_nodded 55 = .ok (.aload_n 0, 1) := by decide +kernel
theorem dX9_nodded_56 : decode cX9_nodded 56 = .ok (.getfield 19, 3) := by decide +kernel
theorem dX9_nodded_59 : decode cX9_nodded 59 = .ok (.iload_n 1, 1) := by decide +kernel
theorem dX9_nodded_60 : decode cX9_nodded 60 = .ok (.iload_n 2, 1) := by decide +kernel
theorem dX9_nodded_61 : decode cX9_nodded 61 = .ok (.invokevirtual 257, 3) := by decide +kernel
theorem dX9_nodded_64 : decode cX9_nodded 64 = .ok (.ireturn, 1) := by decide +kernel
theorem dX9_askNext_0 : decode cX9_askNext 0 = .ok (.aload_n 0, 1) := by decide +kernel
theorem dX9_askNext_1 : decode cX9_askNext 1 = .ok (.getfield 19, 3) := by decide +kernel
theorem dX9_askNext_4 : decode cX9_askNext 4 = .ok (.iload_n 1, 1) := by decide +kernel
theorem dX9_askNext_5 : decode cX9_askNext 5 = .ok (.invokevirtual 173, 3) := by decide +kernel
theorem dX9_askNext_8 : decode cX9_askNext 8 = .ok (.ifCond .ne 6, 3) := by decide +kernel
theorem dX9_askNext_11 : decode cX9_askNext 11 = .ok (.ldc 150, 2) := by decide +kernel
theorem dX9_askNext_13 : decode cX9_askNext 13 = .ok (.ireturn, 1) := by decide +kernel
theorem dX9_askNext_14 : decode cX9_askNext 14 = .ok (.aload_n 0, 1) := by decide +kernel
theorem dX9_askNext_15 : decode cX9_askNext 15 = .ok (.getfield 61, 3) := by decide +kernel
theorem dX9_askNext_18 : decode cX9_askNext 18 = .ok (.aload_n 0, 1) := by decide +kernel
theorem dX9_askNext_19 : decode cX9_askNext 19 = .ok (.getfield 19, 3) := by decide +kernel
theorem dX9_askNext_22 : decode cX9_askNext 22 = .ok (.iload_n 1, 1) := by decide +kernel
theorem dX9_askNext_23 : decode cX9_askNext 23 = .ok (.invokevirtual 261, 3) := by decide +kernel
theorem dX9_askNext_26 : decode cX9_askNext 26 = .ok (.ireturn, 1) := by decide +kernel
theorem dX9_write_0 : decode cX9_write 0 = .ok (.aload_n 0, 1) := by decide +kernel
theorem dX9_write_1 : decode cX9_write 1 = .ok (.getfield 19, 3) := by decide +kernel
theorem dX9_write_4 : decode cX9_write 4 = .ok (.iload_n 1, 1) := by decide +kernel
theorem dX9_write_5 : decode cX9_write 5 = .ok (.invokevirtual 147, 3) := by decide +kernel
theorem dX9_write_8 : decode cX9_write 8 = .ok (.ifCond .ne 6, 3) := by decide +kernel
theorem dX9_write_11 : decode cX9_write 11 = .ok (.ldc 150, 2) := by decide +kernel
theorem dX9_write_13 : decode cX9_write 13 = .ok (.ireturn, 1) := by decide +kernel
theorem dX9_write_14 : decode cX9_write 14 = .ok (.iload_n 2, 1) := by decide +kernel
theorem dX9_write_15 : decode cX9_write 15 = .ok (.ifCond .lt 10, 3) := by decide +kernel
theorem dX9_write_18 : decode cX9_write 18 = .ok (.iload_n 2, 1) := by decide +kernel
theorem dX9_write_19 : decode cX9_write 19 = .ok (.sipush 199, 3) := by decide +kernel
theorem dX9_write_22 : decode cX9_write 22 = .ok (.if_icmp .le 6, 3) := by decide +kernel
theorem dX9_write_25 : decode cX9_write 25 = .ok (.ldc 72, 2) := by decide +kernel
theorem dX9_write_27 : decode cX9_write 27 = .ok (.ireturn, 1) := by decide +kernel
theorem dX9_write_28 : decode cX9_write 28 = .ok (.aload_n 0, 1) := by decide +kernel
theorem dX9_write_29 : decode cX9_write 29 = .ok (.getfield 68, 3) := by decide +kernel
theorem dX9_write_32 : decode cX9_write 32 = .ok (.iload_n 1, 1) := by decide +kernel
theorem dX9_write_33 : decode cX9_write 33 = .ok (.iload_n 2, 1) := by decide +kernel
theorem dX9_write_34 : decode cX9_write 34 = .ok (.invokevirtual 264, 3) := by decide +kernel
theorem dX9_write_37 : decode cX9_write 37 = .ok (.ifCond .ne 6, 3) := by decide +kernel
theorem dX9_write_40 : decode cX9_write 40 = .ok (.ldc 77, 2) := by decide +kernel
theorem dX9_write_42 : decode cX9_write 42 = .ok (.ireturn, 1) := by decide +kernel
theorem dX9_write_43 : decode cX9_write 43 = .ok (.aload_n 0, 1) := by decide +kernel
theorem dX9_write_44 : decode cX9_write 44 = .ok (.getfield 68, 3) := by decide +kernel
theorem dX9_write_47 : decode cX9_write 47 = .ok (.getfield 145, 3) := by decide +kernel
theorem dX9_write_50 : decode cX9_write 50 = .ok (.ireturn, 1) := by decide +kernel
theorem dX9_tear_0 : decode cX9_tear 0 = .ok (.aload_n 0, 1) := by decide +kernel
theorem dX9_tear_1 : decode cX9_tear 1 = .ok (.getfield 61, 3) := by decide +kernel
theorem dX9_tear_4 : decode cX9_tear 4 = .ok (.getfield 142, 3) := by decide +kernel
theorem dX9_tear_7 : decode cX9_tear 7 = .ok (.aload_n 0, 1) := by decide +kernel
theorem dX9_tear_8 : decode cX9_tear 8 = .ok (.getfield 68, 3) := by decide +kernel
theorem dX9_tear_11 : decode cX9_tear 11 = .ok (.getfield 145, 3) := by decide +kernel
theorem dX9_tear_14 : decode cX9_tear 14 = .ok (.iadd, 1) := by decide +kernel
theorem dX9_tear_15 : decode cX9_tear 15 = .ok (.istore_n 1, 1) := by decide +kernel
theorem dX9_tear_16 : decode cX9_tear 16 = .ok (.aload_n 0, 1) := by decide +kernel
theorem dX9_tear_17 : decode cX9_tear 17 = .ok (.getfield 61, 3) := by decide +kernel
theorem dX9_tear_20 : decode cX9_tear 20 = .ok (.invokevirtual 100, 3) := by decide +kernel
theorem dX9_tear_23 : decode cX9_tear 23 = .ok (.aload_n 0, 1) := by decide +kernel
theorem dX9_tear_24 : decode cX9_tear 24 = .ok (.getfield 68, 3) := by decide +kernel
theorem dX9_tear_27 : decode cX9_tear 27 = .ok (.invokevirtual 101, 3) := by decide +kernel
theorem dX9_tear_30 : decode cX9_tear 30 = .ok (.iload_n 1, 1) := by decide +kernel
theorem dX9_tear_31 : decode cX9_tear 31 = .ok (.ireturn, 1) := by decide +kernel
theorem dX9_judge_0 : decode cX9_judge 0 = .ok (.aload_n 0, 1) := by decide +kernel
theorem dX9_judge_1 : decode cX9_judge 1 = .ok (.getfield 68, 3) := by decide +kernel
theorem dX9_judge_4 : decode cX9_judge 4 = .ok (.aload_n 0, 1) := by decide +kernel
theorem dX9_judge_5 : decode cX9_judge 5 = .ok (.getfield 26, 3) := by decide +kernel
theorem dX9_judge_8 : decode cX9_judge 8 = .ok (.invokevirtual 267, 3) := by decide +kernel
theorem dX9_judge_11 : decode cX9_judge 11 = .ok (.ireturn, 1) := by decide +kernel
theorem dX9_seed_0 : decode cX9_seed 0 = .ok (.iload_n 1, 1) := by decide +kernel
theorem dX9_seed_1 : decode cX9_seed 1 = .ok (.ifCond .ge 6, 3) := by decide +kernel
theorem dX9_seed_4 : decode cX9_seed 4 = .ok (.ldc 72, 2) := by decide +kernel
theorem dX9_seed_6 : decode cX9_seed 6 = .ok (.ireturn, 1) := by decide +kernel
theorem dX9_seed_7 : decode cX9_seed 7 = .ok (.aload_n 0, 1) := by decide +kernel
theorem dX9_seed_8 : decode cX9_seed 8 = .ok (.getfield 47, 3) := by decide +kernel
theorem dX9_seed_11 : decode cX9_seed 11 = .ok (.getfield 271, 3) := by decide +kernel
theorem dX9_seed_14 : decode cX9_seed 14 = .ok (.istore_n 2, 1) := by decide +kernel
theorem dX9_seed_15 : decode cX9_seed 15 = .ok (.aload_n 0, 1) := by decide +kernel
theorem dX9_seed_16 : decode cX9_seed 16 = .ok (.getfield 47, 3) := by decide +kernel
theorem dX9_seed_19 : decode cX9_seed 19 = .ok (.iload_n 1, 1) := by decide +kernel
theorem dX9_seed_20 : decode cX9_seed 20 = .ok (.putfield 271, 3) := by decide +kernel
theorem dX9_seed_23 : decode cX9_seed 23 = .ok (.iload_n 2, 1) := by decide +kernel
theorem dX9_seed_24 : decode cX9_seed 24 = .ok (.ireturn, 1) := by decide +kernel
theorem dX9_keep_0 : decode cX9_keep 0 = .ok (.aload_n 0, 1) := by decide +kernel
theorem dX9_keep_1 : decode cX9_keep 1 = .ok (.getfield 40, 3) := by decide +kernel
theorem dX9_keep_4 : decode cX9_keep 4 = .ok (.iload_n 1, 1) := by decide +kernel
theorem dX9_keep_5 : decode cX9_keep 5 = .ok (.invokevirtual 274, 3) := by decide +kernel
theorem dX9_keep_8 : decode cX9_keep 8 = .ok (.ifCond .ne 6, 3) := by decide +kernel
theorem dX9_keep_11 : decode cX9_keep 11 = .ok (.ldc 150, 2) := by decide +kernel
theorem dX9_keep_13 : decode cX9_keep 13 = .ok (.ireturn, 1) := by decide +kernel
theorem dX9_keep_14 : decode cX9_keep 14 = .ok (.aload_n 0, 1) := by decide +kernel
theorem dX9_keep_15 : decode cX9_keep 15 = .ok (.getfield 40, 3) := by decide +kernel
theorem dX9_keep_18 : decode cX9_keep 18 = .ok (.iload_n 1, 1) := by decide +kernel
theorem dX9_keep_19 : decode cX9_keep 19 = .ok (.aload_n 0, 1) := by decide +kernel
theorem dX9_keep_20 : decode cX9_keep 20 = .ok (.getfield 26, 3) := by decide +kernel
theorem dX9_keep_23 : decode cX9_keep 23 = .ok (.aload_n 0, 1) := by decide +kernel
theorem dX9_keep_24 : decode cX9_keep 24 = .ok (.getfield 47, 3) := by decide +kernel
theorem dX9_keep_27 : decode cX9_keep 27 = .ok (.invokevirtual 277, 3) := by decide +kernel
theorem dX9_keep_30 : decode cX9_keep 30 = .ok (.aload_n 0, 1) := by decide +kernel
theorem dX9_keep_31 : decode cX9_keep 31 = .ok (.getfield 33, 3) := by decide +kernel
theorem dX9_keep_34 : decode cX9_keep 34 = .ok (.invokevirtual 96, 3) := by decide +kernel
theorem dX9_keep_37 : decode cX9_keep 37 = .ok (.iconst 1, 1) := by decide +kernel
theorem dX9_keep_38 : decode cX9_keep 38 = .ok (.ireturn, 1) := by decide +kernel
theorem dX9_goBack_0 : decode cX9_goBack 0 = .ok (.aload_n 0, 1) := by decide +kernel
theorem dX9_goBack_1 : decode cX9_goBack 1 = .ok (.getfield 40, 3) := by decide +kernel
theorem dX9_goBack_4 : decode cX9_goBack 4 = .ok (.iload_n 1, 1) := by decide +kernel
theorem dX9_goBack_5 : decode cX9_goBack 5 = .ok (.invokevirtual 274, 3) := by decide +kernel
theorem dX9_goBack_8 : decode cX9_goBack 8 = .ok (.ifCond .ne 6, 3) := by decide +kernel
theorem dX9_goBack_11 : decode cX9_goBack 11 = .ok (.ldc 150, 2) := by decide +kernel
theorem dX9_goBack_13 : decode cX9_goBack 13 = .ok (.ireturn, 1) := by decide +kernel
theorem dX9_goBack_14 : decode cX9_goBack 14 = .ok (.aload_n 0, 1) := by decide +kernel
theorem dX9_goBack_15 : decode cX9_goBack 15 = .ok (.getfield 40, 3) := by decide +kernel
theorem dX9_goBack_18 : decode cX9_goBack 18 = .ok (.iload_n 1, 1) := by decide +kernel
theorem dX9_goBack_19 : decode cX9_goBack 19 = .ok (.aload_n 0, 1) := by decide +kernel
theorem dX9_goBack_20 : decode cX9_goBack 20 = .ok (.getfield 26, 3) := by decide +kernel
theorem dX9_goBack_23 : decode cX9_goBack 23 = .ok (.aload_n 0, 1) := by decide +kernel
theorem dX9_goBack_24 : decode cX9_goBack 24 = .ok (.getfield 47, 3) := by decide +kernel
theorem dX9_goBack_27 : decode cX9_goBack 27 = .ok (.invokevirtual 281, 3) := by decide +kernel
theorem dX9_goBack_30 : decode cX9_goBack 30 = .ok (.ifCond .ne 6, 3) := by decide +kernel
theorem dX9_goBack_33 : decode cX9_goBack 33 = .ok (.ldc 180, 2) := by decide +kernel
theorem dX9_goBack_35 : decode cX9_goBack 35 = .ok (.ireturn, 1) := by decide +kernel
theorem dX9_goBack_36 : decode cX9_goBack 36 = .ok (.aload_n 0, 1) := by decide +kernel
theorem dX9_goBack_37 : decode cX9_goBack 37 = .ok (.getfield 33, 3) := by decide +kernel
theorem dX9_goBack_40 : decode cX9_goBack 40 = .ok (.invokevirtual 96, 3) := by decide +kernel
theorem dX9_goBack_43 : decode cX9_goBack 43 = .ok (.iconst 1, 1) := by decide +kernel
theorem dX9_goBack_44 : decode cX9_goBack 44 = .ok (.ireturn, 1) := by decide +kernel
theorem dX9_refusalOfHours_0 : decode cX9_refusalOfHours 0 = .ok (.iload_n 1, 1) := by decide +kernel
theorem dX9_refusalOfHours_1 : decode cX9_refusalOfHours 1 = .ok (.iconst 1, 1) := by decide +kernel
theorem dX9_refusalOfHours_2 : decode cX9_refusalOfHours 2 = .ok (.if_icmp .lt 9, 3) := by decide +kernel
theorem dX9_refusalOfHours_5 : decode cX9_refusalOfHours 5 = .ok (.iload_n 1, 1) := by decide +kernel
theorem dX9_refusalOfHours_6 : decode cX9_refusalOfHours 6 = .ok (.bipush 60, 2) := by decide +kernel
theorem dX9_refusalOfHours_8 : decode cX9_refusalOfHours 8 = .ok (.if_icmp .le 6, 3) := by decide +kernel
theorem dX9_refusalOfHours_11 : decode cX9_refusalOfHours 11 = .ok (.ldc 72, 2) := by decide +kernel
theorem dX9_refusalOfHours_13 : decode cX9_refusalOfHours 13 = .ok (.ireturn, 1) := by decide +kernel
theorem dX9_refusalOfHours_14 : decode cX9_refusalOfHours 14 = .ok (.aload_n 0, 1) := by decide +kernel
theorem dX9_refusalOfHours_15 : decode cX9_refusalOfHours 15 = .ok (.getfield 19, 3) := by decide +kernel
theorem dX9_refusalOfHours_18 : decode cX9_refusalOfHours 18 = .ok (.invokevirtual 176, 3) := by decide +kernel
theorem dX9_refusalOfHours_21 : decode cX9_refusalOfHours 21 = .ok (.ifCond .ne 6, 3) := by decide +kernel
theorem dX9_refusalOfHours_24 : decode cX9_refusalOfHours 24 = .ok (.ldc 180, 2) := by decide +kernel
theorem dX9_refusalOfHours_26 : decode cX9_refusalOfHours 26 = .ok (.ireturn, 1) := by decide +kernel
theorem dX9_refusalOfHours_27 : decode cX9_refusalOfHours 27 = .ok (.aload_n 0, 1) := by decide +kernel
theorem dX9_refusalOfHours_28 : decode cX9_refusalOfHours 28 = .ok (.getfield 26, 3) := by decide +kernel
theorem dX9_refusalOfHours_31 : decode cX9_refusalOfHours 31 = .ok (.getfield 123, 3) := by decide +kernel
theorem dX9_refusalOfHours_34 : decode cX9_refusalOfHours 34 = .ok (.ldc 181, 2) := by decide +kernel
theorem dX9_refusalOfHours_36 : decode cX9_refusalOfHours 36 = .ok (.if_icmp .le 6, 3) := by decide +kernel
theorem dX9_refusalOfHours_39 : decode cX9_refusalOfHours 39 = .ok (.ldc 77, 2) := by decide +kernel
theorem dX9_refusalOfHours_41 : decode cX9_refusalOfHours 41 = .ok (.ireturn, 1) := by decide +kernel
theorem dX9_refusalOfHours_42 : decode cX9_refusalOfHours 42 = .ok (.iconst (-1), 1) := by decide +kernel
theorem dX9_refusalOfHours_43 : decode cX9_refusalOfHours 43 = .ok (.ireturn, 1) := by decide +kernel
theorem dX9_afterCoffee_0 : decode cX9_afterCoffee 0 = .ok (.iconst 0, 1) := by decide +kernel
theorem dX9_afterCoffee_1 : decode cX9_afterCoffee 1 = .ok (.iload_n 0, 1) := by decide +kernel
theorem dX9_afterCoffee_2 : decode cX9_afterCoffee 2 = .ok (.bipush 30, 2) := by decide +kernel
theorem dX9_afterCoffee_4 : decode cX9_afterCoffee 4 = .ok (.isub, 1) := by decide +kernel
theorem dX9_afterCoffee_5 : decode cX9_afterCoffee 5 = .ok (.invokestatic 235, 3) := by decide +kernel
theorem dX9_afterCoffee_8 : decode cX9_afterCoffee 8 = .ok (.ireturn, 1) := by decide +kernel
theorem dJ6_bitCount_0f7a4_0 : decode cJ6_bitCount_0f7a4 0 = .ok (.iload_n 0, 1) := by decide +kernel
theorem dJ6_bitCount_0f7a4_1 : decode cJ6_bitCount_0f7a4 1 = .ok (.iload_n 0, 1) := by decide +kernel
theorem dJ6_bitCount_0f7a4_2 : decode cJ6_bitCount_0f7a4 2 = .ok (.iconst 1, 1) := by decide +kernel
theorem dJ6_bitCount_0f7a4_3 : decode cJ6_bitCount_0f7a4 3 = .ok (.iushr, 1) := by decide +kernel
theorem dJ6_bitCount_0f7a4_4 : decode cJ6_bitCount_0f7a4 4 = .ok (.ldc_w 265, 3) := by decide +kernel
theorem dJ6_bitCount_0f7a4_7 : decode cJ6_bitCount_0f7a4 7 = .ok (.iand, 1) := by decide +kernel
theorem dJ6_bitCount_0f7a4_8 : decode cJ6_bitCount_0f7a4 8 = .ok (.isub, 1) := by decide +kernel
theorem dJ6_bitCount_0f7a4_9 : decode cJ6_bitCount_0f7a4 9 = .ok (.istore_n 0, 1) := by decide +kernel
theorem dJ6_bitCount_0f7a4_10 : decode cJ6_bitCount_0f7a4 10 = .ok (.iload_n 0, 1) := by decide +kernel
theorem dJ6_bitCount_0f7a4_11 : decode cJ6_bitCount_0f7a4 11 = .ok (.ldc_w 266, 3) := by decide +kernel
theorem dJ6_bitCount_0f7a4_14 : decode cJ6_bitCount_0f7a4 14 = .ok (.iand, 1) := by decide +kernel
theorem dJ6_bitCount_0f7a4_15 : decode cJ6_bitCount_0f7a4 15 = .ok (.iload_n 0, 1) := by decide +kernel
theorem dJ6_bitCount_0f7a4_16 : decode cJ6_bitCount_0f7a4 16 = .ok (.iconst 2, 1) := by decide +kernel
theorem dJ6_bitCount_0f7a4_17 : decode cJ6_bitCount_0f7a4 17 = .ok (.iushr, 1) := by decide +kernel
theorem dJ6_bitCount_0f7a4_18 : decode cJ6_bitCount_0f7a4 18 = .ok (.ldc_w 266, 3) := by decide +kernel
theorem dJ6_bitCount_0f7a4_21 : decode cJ6_bitCount_0f7a4 21 = .ok (.iand, 1) := by decide +kernel
theorem dJ6_bitCount_0f7a4_22 : decode cJ6_bitCount_0f7a4 22 = .ok (.iadd, 1) := by decide +kernel
theorem dJ6_bitCount_0f7a4_23 : decode cJ6_bitCount_0f7a4 23 = .ok (.istore_n 0, 1) := by decide +kernel
theorem dJ6_bitCount_0f7a4_24 : decode cJ6_bitCount_0f7a4 24 = .ok (.iload_n 0, 1) := by decide +kernel
theorem dJ6_bitCount_0f7a4_25 : decode cJ6_bitCount_0f7a4 25 = .ok (.iload_n 0, 1) := by decide +kernel
theorem dJ6_bitCount_0f7a4_26 : decode cJ6_bitCount_0f7a4 26 = .ok (.iconst 4, 1) := by decide +kernel
theorem dJ6_bitCount_0f7a4_27 : decode cJ6_bitCount_0f7a4 27 = .ok (.iushr, 1) := by decide +kernel
theorem dJ6_bitCount_0f7a4_28 : decode cJ6_bitCount_0f7a4 28 = .ok (.iadd, 1) := by decide +kernel
theorem dJ6_bitCount_0f7a4_29 : decode cJ6_bitCount_0f7a4 29 = .ok (.ldc_w 267, 3) := by decide +kernel
theorem dJ6_bitCount_0f7a4_32 : decode cJ6_bitCount_0f7a4 32 = .ok (.iand, 1) := by decide +kernel
theorem dJ6_bitCount_0f7a4_33 : decode cJ6_bitCount_0f7a4 33 = .ok (.istore_n 0, 1) := by decide +kernel
theorem dJ6_bitCount_0f7a4_34 : decode cJ6_bitCount_0f7a4 34 = .ok (.iload_n 0, 1) := by decide +kernel
theorem dJ6_bitCount_0f7a4_35 : decode cJ6_bitCount_0f7a4 35 = .ok (.iload_n 0, 1) := by decide +kernel
theorem dJ6_bitCount_0f7a4_36 : decode cJ6_bitCount_0f7a4 36 = .ok (.bipush 8, 2) := by decide +kernel
theorem dJ6_bitCount_0f7a4_38 : decode cJ6_bitCount_0f7a4 38 = .ok (.iushr, 1) := by decide +kernel
theorem dJ6_bitCount_0f7a4_39 : decode cJ6_bitCount_0f7a4 39 = .ok (.iadd, 1) := by decide +kernel
theorem dJ6_bitCount_0f7a4_40 : decode cJ6_bitCount_0f7a4 40 = .ok (.istore_n 0, 1) := by decide +kernel
theorem dJ6_bitCount_0f7a4_41 : decode cJ6_bitCount_0f7a4 41 = .ok (.iload_n 0, 1) := by decide +kernel
theorem dJ6_bitCount_0f7a4_42 : decode cJ6_bitCount_0f7a4 42 = .ok (.iload_n 0, 1) := by decide +kernel
theorem dJ6_bitCount_0f7a4_43 : decode cJ6_bitCount_0f7a4 43 = .ok (.bipush 16, 2) := by decide +kernel
theorem dJ6_bitCount_0f7a4_45 : decode cJ6_bitCount_0f7a4 45 = .ok (.iushr, 1) := by decide +kernel
theorem dJ6_bitCount_0f7a4_46 : decode cJ6_bitCount_0f7a4 46 = .ok (.iadd, 1) := by decide +kernel
theorem dJ6_bitCount_0f7a4_47 : decode cJ6_bitCount_0f7a4 47 = .ok (.istore_n 0, 1) := by decide +kernel
theorem dJ6_bitCount_0f7a4_48 : decode cJ6_bitCount_0f7a4 48 = .ok (.iload_n 0, 1) := by decide +kernel
theorem dJ6_bitCount_0f7a4_49 : decode cJ6_bitCount_0f7a4 49 = .ok (.bipush 63, 2) := by decide +kernel
theorem dJ6_bitCount_0f7a4_51 : decode cJ6_bitCount_0f7a4 51 = .ok (.iand, 1) := by decide +kernel
theorem dJ6_bitCount_0f7a4_52 : decode cJ6_bitCount_0f7a4 52 = .ok (.ireturn, 1) := by decide +kernel
theorem dJ9_max_7cf53_0 : decode cJ9_max_7cf53 0 = .ok (.iload_n 0, 1) := by decide +kernel
theorem dJ9_max_7cf53_1 : decode cJ9_max_7cf53 1 = .ok (.iload_n 1, 1) := by decide +kernel
theorem dJ9_max_7cf53_2 : decode cJ9_max_7cf53 2 = .ok (.if_icmp .lt 7, 3) := by decide +kernel
theorem dJ9_max_7cf53_5 : decode cJ9_max_7cf53 5 = .ok (.iload_n 0, 1) := by decide +kernel
theorem dJ9_max_7cf53_6 : decode cJ9_max_7cf53 6 = .ok (.goto 4, 3) := by decide +kernel
theorem dJ9_max_7cf53_9 : decode cJ9_max_7cf53 9 = .ok (.iload_n 1, 1) := by decide +kernel
theorem dJ9_max_7cf53_10 : decode cJ9_max_7cf53 10 = .ok (.ireturn, 1) := by decide +kernel
theorem dJ9_min_7cf53_0 : decode cJ9_min_7cf53 0 = .ok (.iload_n 0, 1) := by decide +kernel
theorem dJ9_min_7cf53_1 : decode cJ9_min_7cf53 1 = .ok (.iload_n 1, 1) := by decide +kernel
theorem dJ9_min_7cf53_2 : decode cJ9_min_7cf53 2 = .ok (.if_icmp .gt 7, 3) := by decide +kernel
theorem dJ9_min_7cf53_5 : decode cJ9_min_7cf53 5 = .ok (.iload_n 0, 1) := by decide +kernel
theorem dJ9_min_7cf53_6 : decode cJ9_min_7cf53 6 = .ok (.goto 4, 3) := by decide +kernel
theorem dJ9_min_7cf53_9 : decode cJ9_min_7cf53 9 = .ok (.iload_n 1, 1) := by decide +kernel
theorem dJ9_min_7cf53_10 : decode cJ9_min_7cf53 10 = .ok (.ireturn, 1) := by decide +kernel
