theorem dc_M_readRecord_217 : decode cd_M_readRecord 217 = .ok (.lcmp, 1) := by decide +kernel
theorem dc_M_readRecord_218 : decode cd_M_readRecord 218 = .ok (.ifCond .le 18, 3) := by decide +kernel
theorem dc_M_readRecord_221 : decode cd_M_readRecord 221 = .ok (.aload_n 0, 1) := by decide +kernel
theorem dc_M_readRecord_222 : decode cd_M_readRecord 222 = .ok (.getfield 92, 3) := by decide +kernel
theorem dc_M_readRecord_225 : decode cd_M_readRecord 225 = .ok (.ifCond .eq 11, 3) := by decide +kernel
theorem dc_M_readRecord_228 : decode cd_M_readRecord 228 = .ok (.aload_n 0, 1) := by decide +kernel
theorem dc_M_readRecord_229 : decode cd_M_readRecord 229 = .ok (.getfield 124, 3) := by decide +kernel
theorem dc_M_readRecord_232 : decode cd_M_readRecord 232 = .ok (.l2i, 1) := by decide +kernel
theorem dc_M_readRecord_233 : decode cd_M_readRecord 233 = .ok (.goto 4, 3) := by decide +kernel
theorem dc_M_readRecord_236 : decode cd_M_readRecord 236 = .ok (.iconst 0, 1) := by decide +kernel
theorem dc_M_readRecord_237 : decode cd_M_readRecord 237 = .ok (.isub, 1) := by decide +kernel
theorem dc_M_readRecord_238 : decode cd_M_readRecord 238 = .ok (.putfield 127, 3) := by decide +kernel
theorem dc_M_readRecord_241 : decode cd_M_readRecord 241 = .ok (.aload_n 0, 1) := by decide +kernel
theorem dc_M_readRecord_242 : decode cd_M_readRecord 242 = .ok (.invokevirtual 106, 3) := by decide +kernel
theorem dc_M_readRecord_245 : decode cd_M_readRecord 245 = .ok (.aload_n 0, 1) := by decide +kernel
theorem dc_M_readRecord_246 : decode cd_M_readRecord 246 = .ok (.getfield 92, 3) := by decide +kernel
theorem dc_M_readRecord_249 : decode cd_M_readRecord 249 = .ok (.ifCond .eq 16, 3) := by decide +kernel
theorem dc_M_readRecord_252 : decode cd_M_readRecord 252 = .ok (.aload_n 0, 1) := by decide +kernel
theorem dc_M_readRecord_253 : decode cd_M_readRecord 253 = .ok (.getfield 96, 3) := by decide +kernel
theorem dc_M_readRecord_256 : decode cd_M_readRecord 256 = .ok (.iload 6, 2) := by decide +kernel
theorem dc_M_readRecord_258 : decode cd_M_readRecord 258 = .ok (.if_icmp .ne 7, 3) := by decide +kernel
theorem dc_M_readRecord_261 : decode cd_M_readRecord 261 = .ok (.iconst 1, 1) := by decide +kernel
theorem dc_M_readRecord_262 : decode cd_M_readRecord 262 = .ok (.goto 4, 3) := by decide +kernel
theorem dc_M_readRecord_265 : decode cd_M_readRecord 265 = .ok (.iconst 0, 1) := by decide +kernel
theorem dc_M_readRecord_266 : decode cd_M_readRecord 266 = .ok (.ireturn, 1) := by decide +kernel
theorem dc_M_readVarint_0 : decode cd_M_readVarint 0 = .ok (.lconst 0, 1) := by decide +kernel
theorem dc_M_readVarint_1 : decode cd_M_readVarint 1 = .ok (.lstore_n 1, 1) := by decide +kernel
theorem dc_M_readVarint_2 : decode cd_M_readVarint 2 = .ok (.iconst 0, 1) := by decide +kernel
theorem dc_M_readVarint_3 : decode cd_M_readVarint 3 = .ok (.istore_n 3, 1) := by decide +kernel
theorem dc_M_readVarint_4 : decode cd_M_readVarint 4 = .ok (.iconst 1, 1) := by decide +kernel
theorem dc_M_readVarint_5 : decode cd_M_readVarint 5 = .ok (.istore 4, 2) := by decide +kernel
theorem dc_M_readVarint_7 : decode cd_M_readVarint 7 = .ok (.iload 4, 2) := by decide +kernel
theorem dc_M_readVarint_9 : decode cd_M_readVarint 9 = .ok (.ifCond .eq 133, 3) := by decide +kernel
theorem dc_M_readVarint_12 : decode cd_M_readVarint 12 = .ok (.aload_n 0, 1) := by decide +kernel
theorem dc_M_readVarint_13 : decode cd_M_readVarint 13 = .ok (.getfield 92, 3) := by decide +kernel
theorem dc_M_readVarint_16 : decode cd_M_readVarint 16 = .ok (.ifCond .eq 126, 3) := by decide +kernel
theorem dc_M_readVarint_19 : decode cd_M_readVarint 19 = .ok (.aload_n 0, 1) := by decide +kernel
theorem dc_M_readVarint_20 : decode cd_M_readVarint 20 = .ok (.aload_n 0, 1) := by decide +kernel
theorem dc_M_readVarint_21 : decode cd_M_readVarint 21 = .ok (.getfield 96, 3) := by decide +kernel
theorem dc_M_readVarint_24 : decode cd_M_readVarint 24 = .ok (.aload_n 0, 1) := by decide +kernel
theorem dc_M_readVarint_25 : decode cd_M_readVarint 25 = .ok (.getfield 33, 3) := by decide +kernel
theorem dc_M_readVarint_28 : decode cd_M_readVarint 28 = .ok (.if_icmp .ge 13, 3) := by decide +kernel
theorem dc_M_readVarint_31 : decode cd_M_readVarint 31 = .ok (.iload_n 3, 1) := by decide +kernel
theorem dc_M_readVarint_32 : decode cd_M_readVarint 32 = .ok (.bipush 10, 2) := by decide +kernel
theorem dc_M_readVarint_34 : decode cd_M_readVarint 34 = .ok (.if_icmp .ge 7, 3) := by decide +kernel
theorem dc_M_readVarint_37 : decode cd_M_readVarint 37 = .ok (.iconst 1, 1) := by decide +kernel
theorem dc_M_readVarint_38 : decode cd_M_readVarint 38 = .ok (.goto 4, 3) := by decide +kernel
theorem dc_M_readVarint_41 : decode cd_M_readVarint 41 = .ok (.iconst 0, 1) := by decide +kernel
theorem dc_M_readVarint_42 : decode cd_M_readVarint 42 = .ok (.putfield 92, 3) := by decide +kernel
theorem dc_M_readVarint_45 : decode cd_M_readVarint 45 = .ok (.aload_n 0, 1) := by decide +kernel
theorem dc_M_readVarint_46 : decode cd_M_readVarint 46 = .ok (.getfield 92, 3) := by decide +kernel
theorem dc_M_readVarint_49 : decode cd_M_readVarint 49 = .ok (.ifCond .eq (-42), 3) := by decide +kernel
theorem dc_M_readVarint_52 : decode cd_M_readVarint 52 = .ok (.aload_n 0, 1) := by decide +kernel
theorem dc_M_readVarint_53 : decode cd_M_readVarint 53 = .ok (.getfield 7, 3) := by decide +kernel
theorem dc_M_readVarint_56 : decode cd_M_readVarint 56 = .ok (.aload_n 0, 1) := by decide +kernel
theorem dc_M_readVarint_57 : decode cd_M_readVarint 57 = .ok (.getfield 96, 3) := by decide +kernel
theorem dc_M_readVarint_60 : decode cd_M_readVarint 60 = .ok (.iaload, 1) := by decide +kernel
theorem dc_M_readVarint_61 : decode cd_M_readVarint 61 = .ok (.istore 5, 2) := by decide +kernel
theorem dc_M_readVarint_63 : decode cd_M_readVarint 63 = .ok (.aload_n 0, 1) := by decide +kernel
theorem dc_M_readVarint_64 : decode cd_M_readVarint 64 = .ok (.dup, 1) := by decide +kernel
theorem dc_M_readVarint_65 : decode cd_M_readVarint 65 = .ok (.getfield 96, 3) := by decide +kernel
theorem dc_M_readVarint_68 : decode cd_M_readVarint 68 = .ok (.iconst 1, 1) := by decide +kernel
theorem dc_M_readVarint_69 : decode cd_M_readVarint 69 = .ok (.iadd, 1) := by decide +kernel
theorem dc_M_readVarint_70 : decode cd_M_readVarint 70 = .ok (.putfield 96, 3) := by decide +kernel
theorem dc_M_readVarint_73 : decode cd_M_readVarint 73 = .ok (.iload 5, 2) := by decide +kernel
theorem dc_M_readVarint_75 : decode cd_M_readVarint 75 = .ok (.bipush 127, 2) := by decide +kernel
theorem dc_M_readVarint_77 : decode cd_M_readVarint 77 = .ok (.if_icmp .le 7, 3) := by decide +kernel
theorem dc_M_readVarint_80 : decode cd_M_readVarint 80 = .ok (.iconst 1, 1) := by decide +kernel
theorem dc_M_readVarint_81 : decode cd_M_readVarint 81 = .ok (.goto 4, 3) := by decide +kernel
theorem dc_M_readVarint_84 : decode cd_M_readVarint 84 = .ok (.iconst 0, 1) := by decide +kernel
theorem dc_M_readVarint_85 : decode cd_M_readVarint 85 = .ok (.istore 4, 2) := by decide +kernel
theorem dc_M_readVarint_87 : decode cd_M_readVarint 87 = .ok (.aload_n 0, 1) := by decide +kernel
theorem dc_M_readVarint_88 : decode cd_M_readVarint 88 = .ok (.iload_n 3, 1) := by decide +kernel
theorem dc_M_readVarint_89 : decode cd_M_readVarint 89 = .ok (.bipush 9, 2) := by decide +kernel
theorem dc_M_readVarint_91 : decode cd_M_readVarint 91 = .ok (.if_icmp .lt 9, 3) := by decide +kernel
theorem dc_M_readVarint_94 : decode cd_M_readVarint 94 = .ok (.iload 5, 2) := by decide +kernel
theorem dc_M_readVarint_96 : decode cd_M_readVarint 96 = .ok (.iconst 2, 1) := by decide +kernel
theorem dc_M_readVarint_97 : decode cd_M_readVarint 97 = .ok (.if_icmp .ge 21, 3) := by decide +kernel
theorem dc_M_readVarint_100 : decode cd_M_readVarint 100 = .ok (.iload 4, 2) := by decide +kernel
theorem dc_M_readVarint_102 : decode cd_M_readVarint 102 = .ok (.ifCond .ne 12, 3) := by decide +kernel
theorem dc_M_readVarint_105 : decode cd_M_readVarint 105 = .ok (.iload 5, 2) := by decide +kernel
theorem dc_M_readVarint_107 : decode cd_M_readVarint 107 = .ok (.ifCond .gt 7, 3) := by decide +kernel
theorem dc_M_readVarint_110 : decode cd_M_readVarint 110 = .ok (.iload_n 3, 1) := by decide +kernel
theorem dc_M_readVarint_111 : decode cd_M_readVarint 111 = .ok (.ifCond .ne 7, 3) := by decide +kernel
theorem dc_M_readVarint_114 : decode cd_M_readVarint 114 = .ok (.iconst 1, 1) := by decide +kernel
theorem dc_M_readVarint_115 : decode cd_M_readVarint 115 = .ok (.goto 4, 3) := by decide +kernel
theorem dc_M_readVarint_118 : decode cd_M_readVarint 118 = .ok (.iconst 0, 1) := by decide +kernel
theorem dc_M_readVarint_119 : decode cd_M_readVarint 119 = .ok (.putfield 92, 3) := by decide +kernel
theorem dc_M_readVarint_122 : decode cd_M_readVarint 122 = .ok (.lload_n 1, 1) := by decide +kernel
theorem dc_M_readVarint_123 : decode cd_M_readVarint 123 = .ok (.iload 5, 2) := by decide +kernel
theorem dc_M_readVarint_125 : decode cd_M_readVarint 125 = .ok (.bipush 127, 2) := by decide +kernel
theorem dc_M_readVarint_127 : decode cd_M_readVarint 127 = .ok (.iand, 1) := by decide +kernel
theorem dc_M_readVarint_128 : decode cd_M_readVarint 128 = .ok (.i2l, 1) := by decide +kernel
theorem dc_M_readVarint_129 : decode cd_M_readVarint 129 = .ok (.bipush 7, 2) := by decide +kernel
theorem dc_M_readVarint_131 : decode cd_M_readVarint 131 = .ok (.iload_n 3, 1) := by decide +kernel
theorem dc_M_readVarint_132 : decode cd_M_readVarint 132 = .ok (.imul, 1) := by decide +kernel
theorem dc_M_readVarint_133 : decode cd_M_readVarint 133 = .ok (.lshl, 1) := by decide +kernel
theorem dc_M_readVarint_134 : decode cd_M_readVarint 134 = .ok (.lor, 1) := by decide +kernel
theorem dc_M_readVarint_135 : decode cd_M_readVarint 135 = .ok (.lstore_n 1, 1) := by decide +kernel
theorem dc_M_readVarint_136 : decode cd_M_readVarint 136 = .ok (.iinc 3 1, 3) := by decide +kernel
theorem dc_M_readVarint_139 : decode cd_M_readVarint 139 = .ok (.goto (-132), 3) := by decide +kernel
theorem dc_M_readVarint_142 : decode cd_M_readVarint 142 = .ok (.lload_n 1, 1) := by decide +kernel
theorem dc_M_readVarint_143 : decode cd_M_readVarint 143 = .ok (.iconst 1, 1) := by decide +kernel
theorem dc_M_readVarint_144 : decode cd_M_readVarint 144 = .ok (.lushr, 1) := by decide +kernel
theorem dc_M_readVarint_145 : decode cd_M_readVarint 145 = .ok (.lstore 5, 2) := by decide +kernel
theorem dc_M_readVarint_147 : decode cd_M_readVarint 147 = .ok (.lload_n 1, 1) := by decide +kernel
theorem dc_M_readVarint_148 : decode cd_M_readVarint 148 = .ok (.lconst 1, 1) := by decide +kernel
theorem dc_M_readVarint_149 : decode cd_M_readVarint 149 = .ok (.land, 1) := by decide +kernel
theorem dc_M_readVarint_150 : decode cd_M_readVarint 150 = .ok (.lconst 0, 1) := by decide +kernel
theorem dc_M_readVarint_151 : decode cd_M_readVarint 151 = .ok (.lcmp, 1) := by decide +kernel
theorem dc_M_readVarint_152 : decode cd_M_readVarint 152 = .ok (.ifCond .ne 8, 3) := by decide +kernel
theorem dc_M_readVarint_155 : decode cd_M_readVarint 155 = .ok (.lload 5, 2) := by decide +kernel
theorem dc_M_readVarint_157 : decode cd_M_readVarint 157 = .ok (.goto 8, 3) := by decide +kernel
theorem dc_M_readVarint_160 : decode cd_M_readVarint 160 = .ok (.lload 5, 2) := by decide +kernel
theorem dc_M_readVarint_162 : decode cd_M_readVarint 162 = .ok (.lneg, 1) := by decide +kernel
theorem dc_M_readVarint_163 : decode cd_M_readVarint 163 = .ok (.lconst 1, 1) := by decide +kernel
theorem dc_M_readVarint_164 : decode cd_M_readVarint 164 = .ok (.lsub, 1) := by decide +kernel
theorem dc_M_readVarint_165 : decode cd_M_readVarint 165 = .ok (.lreturn, 1) := by decide +kernel
theorem dc_M_readZero_0 : decode cd_M_readZero 0 = .ok (.aload_n 0, 1) := by decide +kernel
theorem dc_M_readZero_1 : decode cd_M_readZero 1 = .ok (.aload_n 0, 1) := by decide +kernel
theorem dc_M_readZero_2 : decode cd_M_readZero 2 = .ok (.getfield 92, 3) := by decide +kernel
theorem dc_M_readZero_5 : decode cd_M_readZero 5 = .ok (.ifCond .eq 30, 3) := by decide +kernel
theorem dc_M_readZero_8 : decode cd_M_readZero 8 = .ok (.aload_n 0, 1) := by decide +kernel
theorem dc_M_readZero_9 : decode cd_M_readZero 9 = .ok (.getfield 96, 3) := by decide +kernel
theorem dc_M_readZero_12 : decode cd_M_readZero 12 = .ok (.aload_n 0, 1) := by decide +kernel
theorem dc_M_readZero_13 : decode cd_M_readZero 13 = .ok (.getfield 33, 3) := by decide +kernel
theorem dc_M_readZero_16 : decode cd_M_readZero 16 = .ok (.if_icmp .ge 19, 3) := by decide +kernel
theorem dc_M_readZero_19 : decode cd_M_readZero 19 = .ok (.aload_n 0, 1) := by decide +kernel
theorem dc_M_readZero_20 : decode cd_M_readZero 20 = .ok (.getfield 7, 3) := by decide +kernel
theorem dc_M_readZero_23 : decode cd_M_readZero 23 = .ok (.aload_n 0, 1) := by decide +kernel
theorem dc_M_readZero_24 : decode cd_M_readZero 24 = .ok (.getfield 96, 3) := by decide +kernel
theorem dc_M_readZero_27 : decode cd_M_readZero 27 = .ok (.iaload, 1) := by decide +kernel
theorem dc_M_readZero_28 : decode cd_M_readZero 28 = .ok (.ifCond .ne 7, 3) := by decide +kernel
theorem dc_M_readZero_31 : decode cd_M_readZero 31 = .ok (.iconst 1, 1) := by decide +kernel
theorem dc_M_readZero_32 : decode cd_M_readZero 32 = .ok (.goto 4, 3) := by decide +kernel
theorem dc_M_readZero_35 : decode cd_M_readZero 35 = .ok (.iconst 0, 1) := by decide +kernel
theorem dc_M_readZero_36 : decode cd_M_readZero 36 = .ok (.putfield 92, 3) := by decide +kernel
theorem dc_M_readZero_39 : decode cd_M_readZero 39 = .ok (.aload_n 0, 1) := by decide +kernel
theorem dc_M_readZero_40 : decode cd_M_readZero 40 = .ok (.dup, 1) := by decide +kernel
theorem dc_M_readZero_41 : decode cd_M_readZero 41 = .ok (.getfield 96, 3) := by decide +kernel
theorem dc_M_readZero_44 : decode cd_M_readZero 44 = .ok (.iconst 1, 1) := by decide +kernel
theorem dc_M_readZero_45 : decode cd_M_readZero 45 = .ok (.iadd, 1) := by decide +kernel
theorem dc_M_readZero_46 : decode cd_M_readZero 46 = .ok (.putfield 96, 3) := by decide +kernel
theorem dc_M_readZero_49 : decode cd_M_readZero 49 = .ok (.return_, 1) := by decide +kernel
theorem dc_M_readBytes_0 : decode cd_M_readBytes 0 = .ok (.aload_n 0, 1) := by decide +kernel
theorem dc_M_readBytes_1 : decode cd_M_readBytes 1 = .ok (.invokevirtual 99, 3) := by decide +kernel
theorem dc_M_readBytes_4 : decode cd_M_readBytes 4 = .ok (.lstore_n 1, 1) := by decide +kernel
theorem dc_M_readBytes_5 : decode cd_M_readBytes 5 = .ok (.aload_n 0, 1) := by decide +kernel
theorem dc_M_readBytes_6 : decode cd_M_readBytes 6 = .ok (.aload_n 0, 1) := by decide +kernel
theorem dc_M_readBytes_7 : decode cd_M_readBytes 7 = .ok (.getfield 92, 3) := by decide +kernel
theorem dc_M_readBytes_10 : decode cd_M_readBytes 10 = .ok (.ifCond .eq 30, 3) := by decide +kernel
theorem dc_M_readBytes_13 : decode cd_M_readBytes 13 = .ok (.lload_n 1, 1) := by decide +kernel
theorem dc_M_readBytes_14 : decode cd_M_readBytes 14 = .ok (.ldc2_w 90, 3) := by decide +kernel
theorem dc_M_readBytes_17 : decode cd_M_readBytes 17 = .ok (.lcmp, 1) := by decide +kernel
theorem dc_M_readBytes_18 : decode cd_M_readBytes 18 = .ok (.ifCond .lt 22, 3) := by decide +kernel
theorem dc_M_readBytes_21 : decode cd_M_readBytes 21 = .ok (.lload_n 1, 1) := by decide +kernel
theorem dc_M_readBytes_22 : decode cd_M_readBytes 22 = .ok (.aload_n 0, 1) := by decide +kernel
theorem dc_M_readBytes_23 : decode cd_M_readBytes 23 = .ok (.getfield 33, 3) := by decide +kernel
theorem dc_M_readBytes_26 : decode cd_M_readBytes 26 = .ok (.aload_n 0, 1) := by decide +kernel
theorem dc_M_readBytes_27 : decode cd_M_readBytes 27 = .ok (.getfield 96, 3) := by decide +kernel
theorem dc_M_readBytes_30 : decode cd_M_readBytes 30 = .ok (.isub, 1) := by decide +kernel
theorem dc_M_readBytes_31 : decode cd_M_readBytes 31 = .ok (.i2l, 1) := by decide +kernel
theorem dc_M_readBytes_32 : decode cd_M_readBytes 32 = .ok (.lcmp, 1) := by decide +kernel
theorem dc_M_readBytes_33 : decode cd_M_readBytes 33 = .ok (.ifCond .gt 7, 3) := by decide +kernel
theorem dc_M_readBytes_36 : decode cd_M_readBytes 36 = .ok (.iconst 1, 1) := by decide +kernel
theorem dc_M_readBytes_37 : decode cd_M_readBytes 37 = .ok (.goto 4, 3) := by decide +kernel
theorem dc_M_readBytes_40 : decode cd_M_readBytes 40 = .ok (.iconst 0, 1) := by decide +kernel
theorem dc_M_readBytes_41 : decode cd_M_readBytes 41 = .ok (.putfield 92, 3) := by decide +kernel
theorem dc_M_readBytes_44 : decode cd_M_readBytes 44 = .ok (.aload_n 0, 1) := by decide +kernel
theorem dc_M_readBytes_45 : decode cd_M_readBytes 45 = .ok (.dup, 1) := by decide +kernel
theorem dc_M_readBytes_46 : decode cd_M_readBytes 46 = .ok (.getfield 96, 3) := by decide +kernel
theorem dc_M_readBytes_49 : decode cd_M_readBytes 49 = .ok (.aload_n 0, 1) := by decide +kernel
theorem dc_M_readBytes_50 : decode cd_M_readBytes 50 = .ok (.getfield 92, 3) := by decide +kernel
theorem dc_M_readBytes_53 : decode cd_M_readBytes 53 = .ok (.ifCond .eq 14, 3) := by decide +kernel
theorem dc_M_readBytes_56 : decode cd_M_readBytes 56 = .ok (.lload_n 1, 1) := by decide +kernel
theorem dc_M_readBytes_57 : decode cd_M_readBytes 57 = .ok (.lconst 0, 1) := by decide +kernel
theorem dc_M_readBytes_58 : decode cd_M_readBytes 58 = .ok (.lcmp, 1) := by decide +kernel
theorem dc_M_readBytes_59 : decode cd_M_readBytes 59 = .ok (.ifCond .le 8, 3) := by decide +kernel
theorem dc_M_readBytes_62 : decode cd_M_readBytes 62 = .ok (.lload_n 1, 1) := by decide +kernel
theorem dc_M_readBytes_63 : decode cd_M_readBytes 63 = .ok (.l2i, 1) := by decide +kernel
theorem dc_M_readBytes_64 : decode cd_M_readBytes 64 = .ok (.goto 4, 3) := by decide +kernel
theorem dc_M_readBytes_67 : decode cd_M_readBytes 67 = .ok (.iconst 0, 1) := by decide +kernel
theorem dc_M_readBytes_68 : decode cd_M_readBytes 68 = .ok (.iadd, 1) := by decide +kernel
theorem dc_M_readBytes_69 : decode cd_M_readBytes 69 = .ok (.putfield 96, 3) := by decide +kernel
theorem dc_M_readBytes_72 : decode cd_M_readBytes 72 = .ok (.lload_n 1, 1) := by decide +kernel
theorem dc_M_readBytes_73 : decode cd_M_readBytes 73 = .ok (.lreturn, 1) := by decide +kernel
theorem dc_M_head_0 : decode cd_M_head 0 = .ok (.aload_n 0, 1) := by decide +kernel
theorem dc_M_head_1 : decode cd_M_head 1 = .ok (.invokevirtual 158, 3) := by decide +kernel
theorem dc_M_head_4 : decode cd_M_head 4 = .ok (.aload_n 0, 1) := by decide +kernel
theorem dc_M_head_5 : decode cd_M_head 5 = .ok (.aload_n 0, 1) := by decide +kernel
theorem dc_M_head_6 : decode cd_M_head 6 = .ok (.getfield 130, 3) := by decide +kernel
theorem dc_M_head_9 : decode cd_M_head 9 = .ok (.ifCond .gt 12, 3) := by decide +kernel
theorem dc_M_head_12 : decode cd_M_head 12 = .ok (.iload_n 1, 1) := by decide +kernel
theorem dc_M_head_13 : decode cd_M_head 13 = .ok (.ifCond .lt 8, 3) := by decide +kernel
theorem dc_M_head_16 : decode cd_M_head 16 = .ok (.iload_n 1, 1) := by decide +kernel
theorem dc_M_head_17 : decode cd_M_head 17 = .ok (.iconst 5, 1) := by decide +kernel
theorem dc_M_head_18 : decode cd_M_head 18 = .ok (.if_icmp .le 7, 3) := by decide +kernel
theorem dc_M_head_21 : decode cd_M_head 21 = .ok (.iconst 1, 1) := by decide +kernel
theorem dc_M_head_22 : decode cd_M_head 22 = .ok (.goto 4, 3) := by decide +kernel
theorem dc_M_head_25 : decode cd_M_head 25 = .ok (.iconst 0, 1) := by decide +kernel
theorem dc_M_head_26 : decode cd_M_head 26 = .ok (.putfield 29, 3) := by decide +kernel
theorem dc_M_head_29 : decode cd_M_head 29 = .ok (.aload_n 0, 1) := by decide +kernel
theorem dc_M_head_30 : decode cd_M_head 30 = .ok (.getfield 29, 3) := by decide +kernel
theorem dc_M_head_33 : decode cd_M_head 33 = .ok (.ifCond .le 5, 3) := by decide +kernel
theorem dc_M_head_36 : decode cd_M_head 36 = .ok (.lconst 0, 1) := by decide +kernel
theorem dc_M_head_37 : decode cd_M_head 37 = .ok (.lreturn, 1) := by decide +kernel
theorem dc_M_head_38 : decode cd_M_head 38 = .ok (.iload_n 1, 1) := by decide +kernel
theorem dc_M_head_39 : decode cd_M_head 39 = .ok (.tableswitch 76 0 4 #[33, 42, 51, 60, 68], 33) := by decide +kernel
theorem dc_M_head_72 : decode cd_M_head 72 = .ok (.aload_n 0, 1) := by decide +kernel
theorem dc_M_head_73 : decode cd_M_head 73 = .ok (.bipush 27, 2) := by decide +kernel
theorem dc_M_head_75 : decode cd_M_head 75 = .ok (.bipush 8, 2) := by decide +kernel
theorem dc_M_head_77 : decode cd_M_head 77 = .ok (.invokevirtual 136, 3) := by decide +kernel
theorem dc_M_head_80 : decode cd_M_head 80 = .ok (.lreturn, 1) := by decide +kernel
theorem dc_M_head_81 : decode cd_M_head 81 = .ok (.aload_n 0, 1) := by decide +kernel
theorem dc_M_head_82 : decode cd_M_head 82 = .ok (.bipush 35, 2) := by decide +kernel
theorem dc_M_head_84 : decode cd_M_head 84 = .ok (.bipush 8, 2) := by decide +kernel
theorem dc_M_head_86 : decode cd_M_head 86 = .ok (.invokevirtual 136, 3) := by decide +kernel
theorem dc_M_head_89 : decode cd_M_head 89 = .ok (.lreturn, 1) := by decide +kernel
theorem dc_M_head_90 : decode cd_M_head 90 = .ok (.aload_n 0, 1) := by decide +kernel
theorem dc_M_head_91 : decode cd_M_head 91 = .ok (.bipush 43, 2) := by decide +kernel
theorem dc_M_head_93 : decode cd_M_head 93 = .ok (.bipush 8, 2) := by decide +kernel
theorem dc_M_head_95 : decode cd_M_head 95 = .ok (.invokevirtual 136, 3) := by decide +kernel
theorem dc_M_head_98 : decode cd_M_head 98 = .ok (.lreturn, 1) := by decide +kernel
theorem dc_M_head_99 : decode cd_M_head 99 = .ok (.aload_n 0, 1) := by decide +kernel
theorem dc_M_head_100 : decode cd_M_head 100 = .ok (.bipush 51, 2) := by decide +kernel
theorem dc_M_head_102 : decode cd_M_head 102 = .ok (.iconst 2, 1) := by decide +kernel
theorem dc_M_head_103 : decode cd_M_head 103 = .ok (.invokevirtual 136, 3) := by decide +kernel
theorem dc_M_head_106 : decode cd_M_head 106 = .ok (.lreturn, 1) := by decide +kernel
theorem dc_M_head_107 : decode cd_M_head 107 = .ok (.aload_n 0, 1) := by decide +kernel
theorem dc_M_head_108 : decode cd_M_head 108 = .ok (.bipush 53, 2) := by decide +kernel
theorem dc_M_head_110 : decode cd_M_head 110 = .ok (.iconst 4, 1) := by decide +kernel
theorem dc_M_head_111 : decode cd_M_head 111 = .ok (.invokevirtual 136, 3) := by decide +kernel
theorem dc_M_head_114 : decode cd_M_head 114 = .ok (.lreturn, 1) := by decide +kernel
theorem dc_M_head_115 : decode cd_M_head 115 = .ok (.aload_n 0, 1) := by decide +kernel
theorem dc_M_head_116 : decode cd_M_head 116 = .ok (.bipush 57, 2) := by decide +kernel
theorem dc_M_head_118 : decode cd_M_head 118 = .ok (.iconst 4, 1) := by decide +kernel
theorem dc_M_head_119 : decode cd_M_head 119 = .ok (.invokevirtual 136, 3) := by decide +kernel
theorem dc_M_head_122 : decode cd_M_head 122 = .ok (.lreturn, 1) := by decide +kernel
theorem dc_M_told_0 : decode cd_M_told 0 = .ok (.aload_n 0, 1) := by decide +kernel
theorem dc_M_told_1 : decode cd_M_told 1 = .ok (.invokevirtual 158, 3) := by decide +kernel
theorem dc_M_told_4 : decode cd_M_told 4 = .ok (.aload_n 0, 1) := by decide +kernel
theorem dc_M_told_5 : decode cd_M_told 5 = .ok (.aload_n 0, 1) := by decide +kernel
theorem dc_M_told_6 : decode cd_M_told 6 = .ok (.getfield 130, 3) := by decide +kernel
theorem dc_M_told_9 : decode cd_M_told 9 = .ok (.ifCond .gt 29, 3) := by decide +kernel
theorem dc_M_told_12 : decode cd_M_told 12 = .ok (.iload_n 1, 1) := by decide +kernel
theorem dc_M_told_13 : decode cd_M_told 13 = .ok (.ifCond .lt 25, 3) := by decide +kernel
theorem dc_M_told_16 : decode cd_M_told 16 = .ok (.iload_n 1, 1) := by decide +kernel
theorem dc_M_told_17 : decode cd_M_told 17 = .ok (.i2l, 1) := by decide +kernel
theorem dc_M_told_18 : decode cd_M_told 18 = .ok (.aload_n 0, 1) := by decide +kernel
theorem dc_M_told_19 : decode cd_M_told 19 = .ok (.bipush 57, 2) := by decide +kernel
theorem dc_M_told_21 : decode cd_M_told 21 = .ok (.iconst 4, 1) := by decide +kernel
theorem dc_M_told_22 : decode cd_M_told 22 = .ok (.invokevirtual 136, 3) := by decide +kernel
theorem dc_M_told_25 : decode cd_M_told 25 = .ok (.lcmp, 1) := by decide +kernel
theorem dc_M_told_26 : decode cd_M_told 26 = .ok (.ifCond .ge 12, 3) := by decide +kernel
theorem dc_M_told_29 : decode cd_M_told 29 = .ok (.iload_n 2, 1) := by decide +kernel
theorem dc_M_told_30 : decode cd_M_told 30 = .ok (.ifCond .lt 8, 3) := by decide +kernel
theorem dc_M_told_33 : decode cd_M_told 33 = .ok (.iload_n 2, 1) := by decide +kernel
theorem dc_M_told_34 : decode cd_M_told 34 = .ok (.iconst 5, 1) := by decide +kernel
theorem dc_M_told_35 : decode cd_M_told 35 = .ok (.if_icmp .le 7, 3) := by decide +kernel
theorem dc_M_told_38 : decode cd_M_told 38 = .ok (.iconst 1, 1) := by decide +kernel
theorem dc_M_told_39 : decode cd_M_told 39 = .ok (.goto 4, 3) := by decide +kernel
theorem dc_M_told_42 : decode cd_M_told 42 = .ok (.iconst 0, 1) := by decide +kernel
theorem dc_M_told_43 : decode cd_M_told 43 = .ok (.putfield 29, 3) := by decide +kernel
theorem dc_M_told_46 : decode cd_M_told 46 = .ok (.aload_n 0, 1) := by decide +kernel
theorem dc_M_told_47 : decode cd_M_told 47 = .ok (.getfield 29, 3) := by decide +kernel
theorem dc_M_told_50 : decode cd_M_told 50 = .ok (.ifCond .le 5, 3) := by decide +kernel
theorem dc_M_told_53 : decode cd_M_told 53 = .ok (.lconst 0, 1) := by decide +kernel
theorem dc_M_told_54 : decode cd_M_told 54 = .ok (.lreturn, 1) := by decide +kernel
theorem dc_M_told_55 : decode cd_M_told 55 = .ok (.aload_n 0, 1) := by decide +kernel
theorem dc_M_told_56 : decode cd_M_told 56 = .ok (.bipush 61, 2) := by decide +kernel
theorem dc_M_told_58 : decode cd_M_told 58 = .ok (.putfield 96, 3) := by decide +kernel
theorem dc_M_told_61 : decode cd_M_told 61 = .ok (.iconst 0, 1) := by decide +kernel
theorem dc_M_told_62 : decode cd_M_told 62 = .ok (.istore_n 3, 1) := by decide +kernel
theorem dc_M_told_63 : decode cd_M_told 63 = .ok (.iload_n 3, 1) := by decide +kernel
theorem dc_M_told_64 : decode cd_M_told 64 = .ok (.iload_n 1, 1) := by decide +kernel
theorem dc_M_told_65 : decode cd_M_told 65 = .ok (.if_icmp .gt 24, 3) := by decide +kernel
theorem dc_M_told_68 : decode cd_M_told 68 = .ok (.aload_n 0, 1) := by decide +kernel
theorem dc_M_told_69 : decode cd_M_told 69 = .ok (.iload_n 3, 1) := by decide +kernel
theorem dc_M_told_70 : decode cd_M_told 70 = .ok (.aload_n 0, 1) := by decide +kernel
theorem dc_M_told_71 : decode cd_M_told 71 = .ok (.bipush 27, 2) := by decide +kernel
theorem dc_M_told_73 : decode cd_M_told 73 = .ok (.bipush 8, 2) := by decide +kernel
theorem dc_M_told_75 : decode cd_M_told 75 = .ok (.invokevirtual 136, 3) := by decide +kernel
theorem dc_M_told_78 : decode cd_M_told 78 = .ok (.invokevirtual 154, 3) := by decide +kernel
theorem dc_M_told_81 : decode cd_M_told 81 = .ok (.istore 4, 2) := by decide +kernel
theorem dc_M_told_83 : decode cd_M_told 83 = .ok (.iinc 3 1, 3) := by decide +kernel
theorem dc_M_told_86 : decode cd_M_told 86 = .ok (.goto (-23), 3) := by decide +kernel
theorem dc_M_told_89 : decode cd_M_told 89 = .ok (.iload_n 2, 1) := by decide +kernel
theorem dc_M_told_90 : decode cd_M_told 90 = .ok (.tableswitch 68 0 4 #[34, 40, 45, 50, 63], 34) := by decide +kernel
theorem dc_M_told_124 : decode cd_M_told 124 = .ok (.aload_n 0, 1) := by decide +kernel
theorem dc_M_told_125 : decode cd_M_told 125 = .ok (.getfield 103, 3) := by decide +kernel
theorem dc_M_told_128 : decode cd_M_told 128 = .ok (.i2l, 1) := by decide +kernel
theorem dc_M_told_129 : decode cd_M_told 129 = .ok (.lreturn, 1) := by decide +kernel
theorem dc_M_told_130 : decode cd_M_told 130 = .ok (.aload_n 0, 1) := by decide +kernel
theorem dc_M_told_131 : decode cd_M_told 131 = .ok (.getfield 109, 3) := by decide +kernel
theorem dc_M_told_134 : decode cd_M_told 134 = .ok (.lreturn, 1) := by decide +kernel
theorem dc_M_told_135 : decode cd_M_told 135 = .ok (.aload_n 0, 1) := by decide +kernel
theorem dc_M_told_136 : decode cd_M_told 136 = .ok (.getfield 118, 3) := by decide +kernel
theorem dc_M_told_139 : decode cd_M_told 139 = .ok (.lreturn, 1) := by decide +kernel
theorem dc_M_told_140 : decode cd_M_told 140 = .ok (.aload_n 0, 1) := by decide +kernel
theorem dc_M_told_141 : decode cd_M_told 141 = .ok (.aload_n 0, 1) := by decide +kernel
theorem dc_M_told_142 : decode cd_M_told 142 = .ok (.getfield 121, 3) := by decide +kernel
theorem dc_M_told_145 : decode cd_M_told 145 = .ok (.aload_n 0, 1) := by decide +kernel
theorem dc_M_told_146 : decode cd_M_told 146 = .ok (.getfield 118, 3) := by decide +kernel
theorem dc_M_told_149 : decode cd_M_told 149 = .ok (.invokevirtual 147, 3) := by decide +kernel
theorem dc_M_told_152 : decode cd_M_told 152 = .ok (.lreturn, 1) := by decide +kernel
theorem dc_M_told_153 : decode cd_M_told 153 = .ok (.aload_n 0, 1) := by decide +kernel
theorem dc_M_told_154 : decode cd_M_told 154 = .ok (.getfield 124, 3) := by decide +kernel
theorem dc_M_told_157 : decode cd_M_told 157 = .ok (.lreturn, 1) := by decide +kernel
theorem dc_M_told_158 : decode cd_M_told 158 = .ok (.aload_n 0, 1) := by decide +kernel
theorem dc_M_told_159 : decode cd_M_told 159 = .ok (.aload_n 0, 1) := by decide +kernel
theorem dc_M_told_160 : decode cd_M_told 160 = .ok (.getfield 127, 3) := by decide +kernel
theorem dc_M_told_163 : decode cd_M_told 163 = .ok (.aload_n 0, 1) := by decide +kernel
theorem dc_M_told_164 : decode cd_M_told 164 = .ok (.getfield 124, 3) := by decide +kernel
theorem dc_M_told_167 : decode cd_M_told 167 = .ok (.invokevirtual 147, 3) := by decide +kernel
theorem dc_M_told_170 : decode cd_M_told 170 = .ok (.lreturn, 1) := by decide +kernel
theorem dc_L_law_0 : decode cd_L_law 0 = .ok (.new 8, 3) := by decide +kernel
theorem dc_L_law_3 : decode cd_L_law 3 = .ok (.dup, 1) := by decide +kernel
theorem dc_L_law_4 : decode cd_L_law 4 = .ok (.invokespecial 47, 3) := by decide +kernel
theorem dc_L_law_7 : decode cd_L_law 7 = .ok (.astore_n 1, 1) := by decide +kernel
theorem dc_L_law_8 : decode cd_L_law 8 = .ok (.new 48, 3) := by decide +kernel
theorem dc_L_law_11 : decode cd_L_law 11 = .ok (.dup, 1) := by decide +kernel
theorem dc_L_law_12 : decode cd_L_law 12 = .ok (.invokespecial 50, 3) := by decide +kernel
theorem dc_L_law_15 : decode cd_L_law 15 = .ok (.astore_n 2, 1) := by decide +kernel
theorem dc_L_law_16 : decode cd_L_law 16 = .ok (.iconst 1, 1) := by decide +kernel
theorem dc_L_law_17 : decode cd_L_law 17 = .ok (.newarray .long, 2) := by decide +kernel
theorem dc_L_law_19 : decode cd_L_law 19 = .ok (.astore_n 3, 1) := by decide +kernel
theorem dc_L_law_20 : decode cd_L_law 20 = .ok (.iconst 0, 1) := by decide +kernel
theorem dc_L_law_21 : decode cd_L_law 21 = .ok (.istore 4, 2) := by decide +kernel
theorem dc_L_law_23 : decode cd_L_law 23 = .ok (.iload 4, 2) := by decide +kernel
theorem dc_L_law_25 : decode cd_L_law 25 = .ok (.aload_n 0, 1) := by decide +kernel
theorem dc_L_law_26 : decode cd_L_law 26 = .ok (.arraylength, 1) := by decide +kernel
theorem dc_L_law_27 : decode cd_L_law 27 = .ok (.bipush 9, 2) := by decide +kernel
theorem dc_L_law_29 : decode cd_L_law 29 = .ok (.isub, 1) := by decide +kernel
theorem dc_L_law_30 : decode cd_L_law 30 = .ok (.if_icmp .gt 925, 3) := by decide +kernel
theorem dc_L_law_33 : decode cd_L_law 33 = .ok (.aload_n 0, 1) := by decide +kernel
theorem dc_L_law_34 : decode cd_L_law 34 = .ok (.iload 4, 2) := by decide +kernel
theorem dc_L_law_36 : decode cd_L_law 36 = .ok (.iaload, 1) := by decide +kernel
theorem dc_L_law_37 : decode cd_L_law 37 = .ok (.bipush 15, 2) := by decide +kernel
theorem dc_L_law_39 : decode cd_L_law 39 = .ok (.iand, 1) := by decide +kernel
theorem dc_L_law_40 : decode cd_L_law 40 = .ok (.tableswitch 909 0 11 #[64, 168, 224, 292, 305, 491, 504, 662, 675, 731, 787, 842], 64) := by decide +kernel
theorem dc_L_law_104 : decode cd_L_law 104 = .ok (.aload_n 1, 1) := by decide +kernel
theorem dc_L_law_105 : decode cd_L_law 105 = .ok (.aload_n 0, 1) := by decide +kernel
theorem dc_L_law_106 : decode cd_L_law 106 = .ok (.iload 4, 2) := by decide +kernel
theorem dc_L_law_108 : decode cd_L_law 108 = .ok (.iconst 1, 1) := by decide +kernel
theorem dc_L_law_109 : decode cd_L_law 109 = .ok (.iadd, 1) := by decide +kernel
theorem dc_L_law_110 : decode cd_L_law 110 = .ok (.iaload, 1) := by decide +kernel
theorem dc_L_law_111 : decode cd_L_law 111 = .ok (.aload_n 0, 1) := by decide +kernel
theorem dc_L_law_112 : decode cd_L_law 112 = .ok (.iload 4, 2) := by decide +kernel
theorem dc_L_law_114 : decode cd_L_law 114 = .ok (.iconst 2, 1) := by decide +kernel
theorem dc_L_law_115 : decode cd_L_law 115 = .ok (.iadd, 1) := by decide +kernel
theorem dc_L_law_116 : decode cd_L_law 116 = .ok (.iaload, 1) := by decide +kernel
theorem dc_L_law_117 : decode cd_L_law 117 = .ok (.aload_n 0, 1) := by decide +kernel
theorem dc_L_law_118 : decode cd_L_law 118 = .ok (.iload 4, 2) := by decide +kernel
theorem dc_L_law_120 : decode cd_L_law 120 = .ok (.iconst 3, 1) := by decide +kernel
theorem dc_L_law_121 : decode cd_L_law 121 = .ok (.iadd, 1) := by decide +kernel
theorem dc_L_law_122 : decode cd_L_law 122 = .ok (.iaload, 1) := by decide +kernel
theorem dc_L_law_123 : decode cd_L_law 123 = .ok (.aload_n 0, 1) := by decide +kernel
theorem dc_L_law_124 : decode cd_L_law 124 = .ok (.iload 4, 2) := by decide +kernel
theorem dc_L_law_126 : decode cd_L_law 126 = .ok (.iconst 4, 1) := by decide +kernel
theorem dc_L_law_127 : decode cd_L_law 127 = .ok (.iadd, 1) := by decide +kernel
theorem dc_L_law_128 : decode cd_L_law 128 = .ok (.iaload, 1) := by decide +kernel
theorem dc_L_law_129 : decode cd_L_law 129 = .ok (.aload_n 0, 1) := by decide +kernel
theorem dc_L_law_130 : decode cd_L_law 130 = .ok (.iload 4, 2) := by decide +kernel
theorem dc_L_law_132 : decode cd_L_law 132 = .ok (.iconst 5, 1) := by decide +kernel
theorem dc_L_law_133 : decode cd_L_law 133 = .ok (.iadd, 1) := by decide +kernel
theorem dc_L_law_134 : decode cd_L_law 134 = .ok (.iaload, 1) := by decide +kernel
theorem dc_L_law_135 : decode cd_L_law 135 = .ok (.aload_n 3, 1) := by decide +kernel
theorem dc_L_law_136 : decode cd_L_law 136 = .ok (.invokestatic 51, 3) := by decide +kernel
theorem dc_L_law_139 : decode cd_L_law 139 = .ok (.istore 5, 2) := by decide +kernel
theorem dc_L_law_141 : decode cd_L_law 141 = .ok (.aload_n 2, 1) := by decide +kernel
theorem dc_L_law_142 : decode cd_L_law 142 = .ok (.aload_n 0, 1) := by decide +kernel
theorem dc_L_law_143 : decode cd_L_law 143 = .ok (.iload 4, 2) := by decide +kernel
theorem dc_L_law_145 : decode cd_L_law 145 = .ok (.iconst 1, 1) := by decide +kernel
theorem dc_L_law_146 : decode cd_L_law 146 = .ok (.iadd, 1) := by decide +kernel
theorem dc_L_law_147 : decode cd_L_law 147 = .ok (.iaload, 1) := by decide +kernel
theorem dc_L_law_148 : decode cd_L_law 148 = .ok (.aload_n 0, 1) := by decide +kernel
theorem dc_L_law_149 : decode cd_L_law 149 = .ok (.iload 4, 2) := by decide +kernel
theorem dc_L_law_151 : decode cd_L_law 151 = .ok (.iconst 2, 1) := by decide +kernel
theorem dc_L_law_152 : decode cd_L_law 152 = .ok (.iadd, 1) := by decide +kernel
theorem dc_L_law_153 : decode cd_L_law 153 = .ok (.iaload, 1) := by decide +kernel
theorem dc_L_law_154 : decode cd_L_law 154 = .ok (.aload_n 0, 1) := by decide +kernel
theorem dc_L_law_155 : decode cd_L_law 155 = .ok (.iload 4, 2) := by decide +kernel
theorem dc_L_law_157 : decode cd_L_law 157 = .ok (.iconst 3, 1) := by decide +kernel
theorem dc_L_law_158 : decode cd_L_law 158 = .ok (.iadd, 1) := by decide +kernel
theorem dc_L_law_159 : decode cd_L_law 159 = .ok (.iaload, 1) := by decide +kernel
theorem dc_L_law_160 : decode cd_L_law 160 = .ok (.aload_n 0, 1) := by decide +kernel
theorem dc_L_law_161 : decode cd_L_law 161 = .ok (.iload 4, 2) := by decide +kernel
theorem dc_L_law_163 : decode cd_L_law 163 = .ok (.iconst 4, 1) := by decide +kernel
theorem dc_L_law_164 : decode cd_L_law 164 = .ok (.iadd, 1) := by decide +kernel
theorem dc_L_law_165 : decode cd_L_law 165 = .ok (.iaload, 1) := by decide +kernel
theorem dc_L_law_166 : decode cd_L_law 166 = .ok (.aload_n 0, 1) := by decide +kernel
theorem dc_L_law_167 : decode cd_L_law 167 = .ok (.iload 4, 2) := by decide +kernel
theorem dc_L_law_169 : decode cd_L_law 169 = .ok (.iconst 5, 1) := by decide +kernel
theorem dc_L_law_170 : decode cd_L_law 170 = .ok (.iadd, 1) := by decide +kernel
theorem dc_L_law_171 : decode cd_L_law 171 = .ok (.iaload, 1) := by decide +kernel
theorem dc_L_law_172 : decode cd_L_law 172 = .ok (.invokevirtual 56, 3) := by decide +kernel
theorem dc_L_law_175 : decode cd_L_law 175 = .ok (.istore 6, 2) := by decide +kernel
theorem dc_L_law_177 : decode cd_L_law 177 = .ok (.aload_n 2, 1) := by decide +kernel
theorem dc_L_law_178 : decode cd_L_law 178 = .ok (.invokevirtual 57, 3) := by decide +kernel
theorem dc_L_law_181 : decode cd_L_law 181 = .ok (.iload 5, 2) := by decide +kernel
theorem dc_L_law_183 : decode cd_L_law 183 = .ok (.if_icmp .eq 5, 3) := by decide +kernel
theorem dc_L_law_186 : decode cd_L_law 186 = .ok (.iconst 0, 1) := by decide +kernel
theorem dc_L_law_187 : decode cd_L_law 187 = .ok (.ireturn, 1) := by decide +kernel
theorem dc_L_law_188 : decode cd_L_law 188 = .ok (.iload 5, 2) := by decide +kernel
theorem dc_L_law_190 : decode cd_L_law 190 = .ok (.ifCond .ne 15, 3) := by decide +kernel
theorem dc_L_law_193 : decode cd_L_law 193 = .ok (.aload_n 3, 1) := by decide +kernel
theorem dc_L_law_194 : decode cd_L_law 194 = .ok (.iconst 0, 1) := by decide +kernel
theorem dc_L_law_195 : decode cd_L_law 195 = .ok (.laload, 1) := by decide +kernel
theorem dc_L_law_196 : decode cd_L_law 196 = .ok (.iload 6, 2) := by decide +kernel
theorem dc_L_law_198 : decode cd_L_law 198 = .ok (.i2l, 1) := by decide +kernel
theorem dc_L_law_199 : decode cd_L_law 199 = .ok (.lcmp, 1) := by decide +kernel
theorem dc_L_law_200 : decode cd_L_law 200 = .ok (.ifCond .eq 5, 3) := by decide +kernel
theorem dc_L_law_203 : decode cd_L_law 203 = .ok (.iconst 0, 1) := by decide +kernel
theorem dc_L_law_204 : decode cd_L_law 204 = .ok (.ireturn, 1) := by decide +kernel
theorem dc_L_law_205 : decode cd_L_law 205 = .ok (.goto 744, 3) := by decide +kernel
theorem dc_L_law_208 : decode cd_L_law 208 = .ok (.aload_n 1, 1) := by decide +kernel
theorem dc_L_law_209 : decode cd_L_law 209 = .ok (.aload_n 0, 1) := by decide +kernel
theorem dc_L_law_210 : decode cd_L_law 210 = .ok (.iload 4, 2) := by decide +kernel
theorem dc_L_law_212 : decode cd_L_law 212 = .ok (.iconst 1, 1) := by decide +kernel
theorem dc_L_law_213 : decode cd_L_law 213 = .ok (.iadd, 1) := by decide +kernel
theorem dc_L_law_214 : decode cd_L_law 214 = .ok (.iaload, 1) := by decide +kernel
theorem dc_L_law_215 : decode cd_L_law 215 = .ok (.aload_n 3, 1) := by decide +kernel
theorem dc_L_law_216 : decode cd_L_law 216 = .ok (.invokestatic 61, 3) := by decide +kernel
theorem dc_L_law_219 : decode cd_L_law 219 = .ok (.istore 5, 2) := by decide +kernel
theorem dc_L_law_221 : decode cd_L_law 221 = .ok (.aload_n 2, 1) := by decide +kernel
theorem dc_L_law_222 : decode cd_L_law 222 = .ok (.aload_n 0, 1) := by decide +kernel
theorem dc_L_law_223 : decode cd_L_law 223 = .ok (.iload 4, 2) := by decide +kernel
theorem dc_L_law_225 : decode cd_L_law 225 = .ok (.iconst 1, 1) := by decide +kernel
theorem dc_L_law_226 : decode cd_L_law 226 = .ok (.iadd, 1) := by decide +kernel
theorem dc_L_law_227 : decode cd_L_law 227 = .ok (.iaload, 1) := by decide +kernel
theorem dc_L_law_228 : decode cd_L_law 228 = .ok (.invokevirtual 64, 3) := by decide +kernel
theorem dc_L_law_231 : decode cd_L_law 231 = .ok (.istore 6, 2) := by decide +kernel
theorem dc_L_law_233 : decode cd_L_law 233 = .ok (.aload_n 2, 1) := by decide +kernel
theorem dc_L_law_234 : decode cd_L_law 234 = .ok (.invokevirtual 57, 3) := by decide +kernel
theorem dc_L_law_237 : decode cd_L_law 237 = .ok (.iload 5, 2) := by decide +kernel
theorem dc_L_law_239 : decode cd_L_law 239 = .ok (.if_icmp .eq 5, 3) := by decide +kernel
theorem dc_L_law_242 : decode cd_L_law 242 = .ok (.iconst 0, 1) := by decide +kernel
theorem dc_L_law_243 : decode cd_L_law 243 = .ok (.ireturn, 1) := by decide +kernel
theorem dc_L_law_244 : decode cd_L_law 244 = .ok (.iload 5, 2) := by decide +kernel
theorem dc_L_law_246 : decode cd_L_law 246 = .ok (.ifCond .ne 15, 3) := by decide +kernel
theorem dc_L_law_249 : decode cd_L_law 249 = .ok (.aload_n 3, 1) := by decide +kernel
theorem dc_L_law_250 : decode cd_L_law 250 = .ok (.iconst 0, 1) := by decide +kernel
theorem dc_L_law_251 : decode cd_L_law 251 = .ok (.laload, 1) := by decide +kernel
theorem dc_L_law_252 : decode cd_L_law 252 = .ok (.iload 6, 2) := by decide +kernel
theorem dc_L_law_254 : decode cd_L_law 254 = .ok (.i2l, 1) := by decide +kernel
theorem dc_L_law_255 : decode cd_L_law 255 = .ok (.lcmp, 1) := by decide +kernel
theorem dc_L_law_256 : decode cd_L_law 256 = .ok (.ifCond .eq 5, 3) := by decide +kernel
theorem dc_L_law_259 : decode cd_L_law 259 = .ok (.iconst 0, 1) := by decide +kernel
theorem dc_L_law_260 : decode cd_L_law 260 = .ok (.ireturn, 1) := by decide +kernel
theorem dc_L_law_261 : decode cd_L_law 261 = .ok (.goto 688, 3) := by decide +kernel
theorem dc_L_law_264 : decode cd_L_law 264 = .ok (.aload_n 1, 1) := by decide +kernel
theorem dc_L_law_265 : decode cd_L_law 265 = .ok (.aload_n 0, 1) := by decide +kernel
theorem dc_L_law_266 : decode cd_L_law 266 = .ok (.iload 4, 2) := by decide +kernel
theorem dc_L_law_268 : decode cd_L_law 268 = .ok (.iconst 1, 1) := by decide +kernel
theorem dc_L_law_269 : decode cd_L_law 269 = .ok (.iadd, 1) := by decide +kernel
theorem dc_L_law_270 : decode cd_L_law 270 = .ok (.iaload, 1) := by decide +kernel
theorem dc_L_law_271 : decode cd_L_law 271 = .ok (.aload_n 0, 1) := by decide +kernel
theorem dc_L_law_272 : decode cd_L_law 272 = .ok (.iload 4, 2) := by decide +kernel
theorem dc_L_law_274 : decode cd_L_law 274 = .ok (.iconst 2, 1) := by decide +kernel
theorem dc_L_law_275 : decode cd_L_law 275 = .ok (.iadd, 1) := by decide +kernel
theorem dc_L_law_276 : decode cd_L_law 276 = .ok (.iaload, 1) := by decide +kernel
theorem dc_L_law_277 : decode cd_L_law 277 = .ok (.aload_n 3, 1) := by decide +kernel
theorem dc_L_law_278 : decode cd_L_law 278 = .ok (.invokestatic 65, 3) := by decide +kernel
theorem dc_L_law_281 : decode cd_L_law 281 = .ok (.istore 5, 2) := by decide +kernel
theorem dc_L_law_283 : decode cd_L_law 283 = .ok (.aload_n 2, 1) := by decide +kernel
theorem dc_L_law_284 : decode cd_L_law 284 = .ok (.aload_n 0, 1) := by decide +kernel
theorem dc_L_law_285 : decode cd_L_law 285 = .ok (.iload 4, 2) := by decide +kernel
theorem dc_L_law_287 : decode cd_L_law 287 = .ok (.iconst 1, 1) := by decide +kernel
theorem dc_L_law_288 : decode cd_L_law 288 = .ok (.iadd, 1) := by decide +kernel
theorem dc_L_law_289 : decode cd_L_law 289 = .ok (.iaload, 1) := by decide +kernel
theorem dc_L_law_290 : decode cd_L_law 290 = .ok (.aload_n 0, 1) := by decide +kernel
theorem dc_L_law_291 : decode cd_L_law 291 = .ok (.iload 4, 2) := by decide +kernel
theorem dc_L_law_293 : decode cd_L_law 293 = .ok (.iconst 2, 1) := by decide +kernel
theorem dc_L_law_294 : decode cd_L_law 294 = .ok (.iadd, 1) := by decide +kernel
theorem dc_L_law_295 : decode cd_L_law 295 = .ok (.iaload, 1) := by decide +kernel
theorem dc_L_law_296 : decode cd_L_law 296 = .ok (.invokevirtual 68, 3) := by decide +kernel
theorem dc_L_law_299 : decode cd_L_law 299 = .ok (.istore 6, 2) := by decide +kernel
theorem dc_L_law_301 : decode cd_L_law 301 = .ok (.aload_n 2, 1) := by decide +kernel
theorem dc_L_law_302 : decode cd_L_law 302 = .ok (.invokevirtual 57, 3) := by decide +kernel
theorem dc_L_law_305 : decode cd_L_law 305 = .ok (.iload 5, 2) := by decide +kernel
theorem dc_L_law_307 : decode cd_L_law 307 = .ok (.if_icmp .eq 5, 3) := by decide +kernel
theorem dc_L_law_310 : decode cd_L_law 310 = .ok (.iconst 0, 1) := by decide +kernel
theorem dc_L_law_311 : decode cd_L_law 311 = .ok (.ireturn, 1) := by decide +kernel
theorem dc_L_law_312 : decode cd_L_law 312 = .ok (.iload 5, 2) := by decide +kernel
theorem dc_L_law_314 : decode cd_L_law 314 = .ok (.ifCond .ne 15, 3) := by decide +kernel
theorem dc_L_law_317 : decode cd_L_law 317 = .ok (.aload_n 3, 1) := by decide +kernel
theorem dc_L_law_318 : decode cd_L_law 318 = .ok (.iconst 0, 1) := by decide +kernel
theorem dc_L_law_319 : decode cd_L_law 319 = .ok (.laload, 1) := by decide +kernel
theorem dc_L_law_320 : decode cd_L_law 320 = .ok (.iload 6, 2) := by decide +kernel
theorem dc_L_law_322 : decode cd_L_law 322 = .ok (.i2l, 1) := by decide +kernel
theorem dc_L_law_323 : decode cd_L_law 323 = .ok (.lcmp, 1) := by decide +kernel
theorem dc_L_law_324 : decode cd_L_law 324 = .ok (.ifCond .eq 5, 3) := by decide +kernel
theorem dc_L_law_327 : decode cd_L_law 327 = .ok (.iconst 0, 1) := by decide +kernel
theorem dc_L_law_328 : decode cd_L_law 328 = .ok (.ireturn, 1) := by decide +kernel
theorem dc_L_law_329 : decode cd_L_law 329 = .ok (.goto 620, 3) := by decide +kernel
theorem dc_L_law_332 : decode cd_L_law 332 = .ok (.aload_n 1, 1) := by decide +kernel
theorem dc_L_law_333 : decode cd_L_law 333 = .ok (.invokevirtual 69, 3) := by decide +kernel
theorem dc_L_law_336 : decode cd_L_law 336 = .ok (.aload_n 2, 1) := by decide +kernel
theorem dc_L_law_337 : decode cd_L_law 337 = .ok (.invokevirtual 72, 3) := by decide +kernel
theorem dc_L_law_340 : decode cd_L_law 340 = .ok (.if_icmp .eq 609, 3) := by decide +kernel
theorem dc_L_law_343 : decode cd_L_law 343 = .ok (.iconst 0, 1) := by decide +kernel
theorem dc_L_law_344 : decode cd_L_law 344 = .ok (.ireturn, 1) := by decide +kernel
theorem dc_L_law_345 : decode cd_L_law 345 = .ok (.aload_n 1, 1) := by decide +kernel
theorem dc_L_law_346 : decode cd_L_law 346 = .ok (.aload_n 0, 1) := by decide +kernel
theorem dc_L_law_347 : decode cd_L_law 347 = .ok (.iload 4, 2) := by decide +kernel
theorem dc_L_law_349 : decode cd_L_law 349 = .ok (.iconst 1, 1) := by decide +kernel
theorem dc_L_law_350 : decode cd_L_law 350 = .ok (.iadd, 1) := by decide +kernel
theorem dc_L_law_351 : decode cd_L_law 351 = .ok (.iaload, 1) := by decide +kernel
theorem dc_L_law_352 : decode cd_L_law 352 = .ok (.aload_n 0, 1) := by decide +kernel
theorem dc_L_law_353 : decode cd_L_law 353 = .ok (.iload 4, 2) := by decide +kernel
theorem dc_L_law_355 : decode cd_L_law 355 = .ok (.iconst 2, 1) := by decide +kernel
theorem dc_L_law_356 : decode cd_L_law 356 = .ok (.iadd, 1) := by decide +kernel
theorem dc_L_law_357 : decode cd_L_law 357 = .ok (.iaload, 1) := by decide +kernel
theorem dc_L_law_358 : decode cd_L_law 358 = .ok (.i2l, 1) := by decide +kernel
theorem dc_L_law_359 : decode cd_L_law 359 = .ok (.bipush 32, 2) := by decide +kernel
theorem dc_L_law_361 : decode cd_L_law 361 = .ok (.lshl, 1) := by decide +kernel
theorem dc_L_law_362 : decode cd_L_law 362 = .ok (.aload_n 0, 1) := by decide +kernel
theorem dc_L_law_363 : decode cd_L_law 363 = .ok (.iload 4, 2) := by decide +kernel
theorem dc_L_law_365 : decode cd_L_law 365 = .ok (.iconst 3, 1) := by decide +kernel
theorem dc_L_law_366 : decode cd_L_law 366 = .ok (.iadd, 1) := by decide +kernel
theorem dc_L_law_367 : decode cd_L_law 367 = .ok (.iaload, 1) := by decide +kernel
theorem dc_L_law_368 : decode cd_L_law 368 = .ok (.i2l, 1) := by decide +kernel
theorem dc_L_law_369 : decode cd_L_law 369 = .ok (.ldc2_w 73, 3) := by decide +kernel
theorem dc_L_law_372 : decode cd_L_law 372 = .ok (.land, 1) := by decide +kernel
theorem dc_L_law_373 : decode cd_L_law 373 = .ok (.lor, 1) := by decide +kernel
theorem dc_L_law_374 : decode cd_L_law 374 = .ok (.aload_n 0, 1) := by decide +kernel
theorem dc_L_law_375 : decode cd_L_law 375 = .ok (.iload 4, 2) := by decide +kernel
theorem dc_L_law_377 : decode cd_L_law 377 = .ok (.iconst 4, 1) := by decide +kernel
theorem dc_L_law_378 : decode cd_L_law 378 = .ok (.iadd, 1) := by decide +kernel
theorem dc_L_law_379 : decode cd_L_law 379 = .ok (.iaload, 1) := by decide +kernel
theorem dc_L_law_380 : decode cd_L_law 380 = .ok (.aload_n 0, 1) := by decide +kernel
theorem dc_L_law_381 : decode cd_L_law 381 = .ok (.iload 4, 2) := by decide +kernel
theorem dc_L_law_383 : decode cd_L_law 383 = .ok (.iconst 5, 1) := by decide +kernel
theorem dc_L_law_384 : decode cd_L_law 384 = .ok (.iadd, 1) := by decide +kernel
theorem dc_L_law_385 : decode cd_L_law 385 = .ok (.iaload, 1) := by decide +kernel
theorem dc_L_law_386 : decode cd_L_law 386 = .ok (.i2l, 1) := by decide +kernel
theorem dc_L_law_387 : decode cd_L_law 387 = .ok (.bipush 32, 2) := by decide +kernel
theorem dc_L_law_389 : decode cd_L_law 389 = .ok (.lshl, 1) := by decide +kernel
theorem dc_L_law_390 : decode cd_L_law 390 = .ok (.aload_n 0, 1) := by decide +kernel
theorem dc_L_law_391 : decode cd_L_law 391 = .ok (.iload 4, 2) := by decide +kernel
theorem dc_L_law_393 : decode cd_L_law 393 = .ok (.bipush 6, 2) := by decide +kernel
theorem dc_L_law_395 : decode cd_L_law 395 = .ok (.iadd, 1) := by decide +kernel
theorem dc_L_law_396 : decode cd_L_law 396 = .ok (.iaload, 1) := by decide +kernel
theorem dc_L_law_397 : decode cd_L_law 397 = .ok (.i2l, 1) := by decide +kernel
theorem dc_L_law_398 : decode cd_L_law 398 = .ok (.ldc2_w 73, 3) := by decide +kernel
theorem dc_L_law_401 : decode cd_L_law 401 = .ok (.land, 1) := by decide +kernel
theorem dc_L_law_402 : decode cd_L_law 402 = .ok (.lor, 1) := by decide +kernel
theorem dc_L_law_403 : decode cd_L_law 403 = .ok (.aload_n 0, 1) := by decide +kernel
theorem dc_L_law_404 : decode cd_L_law 404 = .ok (.iload 4, 2) := by decide +kernel
theorem dc_L_law_406 : decode cd_L_law 406 = .ok (.bipush 7, 2) := by decide +kernel
theorem dc_L_law_408 : decode cd_L_law 408 = .ok (.iadd, 1) := by decide +kernel
theorem dc_L_law_409 : decode cd_L_law 409 = .ok (.iaload, 1) := by decide +kernel
theorem dc_L_law_410 : decode cd_L_law 410 = .ok (.aload_n 0, 1) := by decide +kernel
theorem dc_L_law_411 : decode cd_L_law 411 = .ok (.iload 4, 2) := by decide +kernel
theorem dc_L_law_413 : decode cd_L_law 413 = .ok (.bipush 8, 2) := by decide +kernel
theorem dc_L_law_415 : decode cd_L_law 415 = .ok (.iadd, 1) := by decide +kernel
theorem dc_L_law_416 : decode cd_L_law 416 = .ok (.iaload, 1) := by decide +kernel
theorem dc_L_law_417 : decode cd_L_law 417 = .ok (.aload_n 3, 1) := by decide +kernel
theorem dc_L_law_418 : decode cd_L_law 418 = .ok (.invokestatic 75, 3) := by decide +kernel
theorem dc_L_law_421 : decode cd_L_law 421 = .ok (.istore 5, 2) := by decide +kernel
theorem dc_L_law_423 : decode cd_L_law 423 = .ok (.aload_n 2, 1) := by decide +kernel
theorem dc_L_law_424 : decode cd_L_law 424 = .ok (.aload_n 0, 1) := by decide +kernel
theorem dc_L_law_425 : decode cd_L_law 425 = .ok (.iload 4, 2) := by decide +kernel
theorem dc_L_law_427 : decode cd_L_law 427 = .ok (.iconst 1, 1) := by decide +kernel
theorem dc_L_law_428 : decode cd_L_law 428 = .ok (.iadd, 1) := by decide +kernel
theorem dc_L_law_429 : decode cd_L_law 429 = .ok (.iaload, 1) := by decide +kernel
theorem dc_L_law_430 : decode cd_L_law 430 = .ok (.aload_n 0, 1) := by decide +kernel
theorem dc_L_law_431 : decode cd_L_law 431 = .ok (.iload 4, 2) := by decide +kernel
theorem dc_L_law_433 : decode cd_L_law 433 = .ok (.iconst 2, 1) := by decide +kernel
theorem dc_L_law_434 : decode cd_L_law 434 = .ok (.iadd, 1) := by decide +kernel
theorem dc_L_law_435 : decode cd_L_law 435 = .ok (.iaload, 1) := by decide +kernel
theorem dc_L_law_436 : decode cd_L_law 436 = .ok (.i2l, 1) := by decide +kernel
theorem dc_L_law_437 : decode cd_L_law 437 = .ok (.bipush 32, 2) := by decide +kernel
theorem dc_L_law_439 : decode cd_L_law 439 = .ok (.lshl, 1) := by decide +kernel
theorem dc_L_law_440 : decode cd_L_law 440 = .ok (.aload_n 0, 1) := by decide +kernel
theorem dc_L_law_441 : decode cd_L_law 441 = .ok (.iload 4, 2) := by decide +kernel
theorem dc_L_law_443 : decode cd_L_law 443 = .ok (.iconst 3, 1) := by decide +kernel
theorem dc_L_law_444 : decode cd_L_law 444 = .ok (.iadd, 1) := by decide +kernel
theorem dc_L_law_445 : decode cd_L_law 445 = .ok (.iaload, 1) := by decide +kernel
theorem dc_L_law_446 : decode cd_L_law 446 = .ok (.i2l, 1) := by decide +kernel
theorem dc_L_law_447 : decode cd_L_law 447 = .ok (.ldc2_w 73, 3) := by decide +kernel
theorem dc_L_law_450 : decode cd_L_law 450 = .ok (.land, 1) := by decide +kernel
theorem dc_L_law_451 : decode cd_L_law 451 = .ok (.lor, 1) := by decide +kernel
theorem dc_L_law_452 : decode cd_L_law 452 = .ok (.aload_n 0, 1) := by decide +kernel
theorem dc_L_law_453 : decode cd_L_law 453 = .ok (.iload 4, 2) := by decide +kernel
theorem dc_L_law_455 : decode cd_L_law 455 = .ok (.iconst 4, 1) := by decide +kernel
theorem dc_L_law_456 : decode cd_L_law 456 = .ok (.iadd, 1) := by decide +kernel
theorem dc_L_law_457 : decode cd_L_law 457 = .ok (.iaload, 1) := by decide +kernel
theorem dc_L_law_458 : decode cd_L_law 458 = .ok (.aload_n 0, 1) := by decide +kernel
theorem dc_L_law_459 : decode cd_L_law 459 = .ok (.iload 4, 2) := by decide +kernel
theorem dc_L_law_461 : decode cd_L_law 461 = .ok (.iconst 5, 1) := by decide +kernel
theorem dc_L_law_462 : decode cd_L_law 462 = .ok (.iadd, 1) := by decide +kernel
theorem dc_L_law_463 : decode cd_L_law 463 = .ok (.iaload, 1) := by decide +kernel
theorem dc_L_law_464 : decode cd_L_law 464 = .ok (.i2l, 1) := by decide +kernel
theorem dc_L_law_465 : decode cd_L_law 465 = .ok (.bipush 32, 2) := by decide +kernel
theorem dc_L_law_467 : decode cd_L_law 467 = .ok (.lshl, 1) := by decide +kernel
theorem dc_L_law_468 : decode cd_L_law 468 = .ok (.aload_n 0, 1) := by decide +kernel
theorem dc_L_law_469 : decode cd_L_law 469 = .ok (.iload 4, 2) := by decide +kernel
theorem dc_L_law_471 : decode cd_L_law 471 = .ok (.bipush 6, 2) := by decide +kernel
theorem dc_L_law_473 : decode cd_L_law 473 = .ok (.iadd, 1) := by decide +kernel
theorem dc_L_law_474 : decode cd_L_law 474 = .ok (.iaload, 1) := by decide +kernel
theorem dc_L_law_475 : decode cd_L_law 475 = .ok (.i2l, 1) := by decide +kernel
theorem dc_L_law_476 : decode cd_L_law 476 = .ok (.ldc2_w 73, 3) := by decide +kernel
theorem dc_L_law_479 : decode cd_L_law 479 = .ok (.land, 1) := by decide +kernel
theorem dc_L_law_480 : decode cd_L_law 480 = .ok (.lor, 1) := by decide +kernel
theorem dc_L_law_481 : decode cd_L_law 481 = .ok (.aload_n 0, 1) := by decide +kernel
theorem dc_L_law_482 : decode cd_L_law 482 = .ok (.iload 4, 2) := by decide +kernel
theorem dc_L_law_484 : decode cd_L_law 484 = .ok (.bipush 7, 2) := by decide +kernel
theorem dc_L_law_486 : decode cd_L_law 486 = .ok (.iadd, 1) := by decide +kernel
theorem dc_L_law_487 : decode cd_L_law 487 = .ok (.iaload, 1) := by decide +kernel
theorem dc_L_law_488 : decode cd_L_law 488 = .ok (.aload_n 0, 1) := by decide +kernel
theorem dc_L_law_489 : decode cd_L_law 489 = .ok (.iload 4, 2) := by decide +kernel
theorem dc_L_law_491 : decode cd_L_law 491 = .ok (.bipush 8, 2) := by decide +kernel
theorem dc_L_law_493 : decode cd_L_law 493 = .ok (.iadd, 1) := by decide +kernel
theorem dc_L_law_494 : decode cd_L_law 494 = .ok (.iaload, 1) := by decide +kernel
theorem dc_L_law_495 : decode cd_L_law 495 = .ok (.invokevirtual 78, 3) := by decide +kernel
theorem dc_L_law_498 : decode cd_L_law 498 = .ok (.istore 6, 2) := by decide +kernel
theorem dc_L_law_500 : decode cd_L_law 500 = .ok (.aload_n 2, 1) := by decide +kernel
theorem dc_L_law_501 : decode cd_L_law 501 = .ok (.invokevirtual 57, 3) := by decide +kernel
theorem dc_L_law_504 : decode cd_L_law 504 = .ok (.iload 5, 2) := by decide +kernel
theorem dc_L_law_506 : decode cd_L_law 506 = .ok (.if_icmp .eq 5, 3) := by decide +kernel
theorem dc_L_law_509 : decode cd_L_law 509 = .ok (.iconst 0, 1) := by decide +kernel
theorem dc_L_law_510 : decode cd_L_law 510 = .ok (.ireturn, 1) := by decide +kernel
theorem dc_L_law_511 : decode cd_L_law 511 = .ok (.iload 5, 2) := by decide +kernel
theorem dc_L_law_513 : decode cd_L_law 513 = .ok (.ifCond .ne 15, 3) := by decide +kernel
theorem dc_L_law_516 : decode cd_L_law 516 = .ok (.aload_n 3, 1) := by decide +kernel
theorem dc_L_law_517 : decode cd_L_law 517 = .ok (.iconst 0, 1) := by decide +kernel
theorem dc_L_law_518 : decode cd_L_law 518 = .ok (.laload, 1) := by decide +kernel
theorem dc_L_law_519 : decode cd_L_law 519 = .ok (.iload 6, 2) := by decide +kernel
theorem dc_L_law_521 : decode cd_L_law 521 = .ok (.i2l, 1) := by decide +kernel
theorem dc_L_law_522 : decode cd_L_law 522 = .ok (.lcmp, 1) := by decide +kernel
theorem dc_L_law_523 : decode cd_L_law 523 = .ok (.ifCond .eq 5, 3) := by decide +kernel
theorem dc_L_law_526 : decode cd_L_law 526 = .ok (.iconst 0, 1) := by decide +kernel
theorem dc_L_law_527 : decode cd_L_law 527 = .ok (.ireturn, 1) := by decide +kernel
theorem dc_L_law_528 : decode cd_L_law 528 = .ok (.goto 421, 3) := by decide +kernel
theorem dc_L_law_531 : decode cd_L_law 531 = .ok (.aload_n 1, 1) := by decide +kernel
theorem dc_L_law_532 : decode cd_L_law 532 = .ok (.invokevirtual 79, 3) := by decide +kernel
theorem dc_L_law_535 : decode cd_L_law 535 = .ok (.aload_n 2, 1) := by decide +kernel
theorem dc_L_law_536 : decode cd_L_law 536 = .ok (.invokevirtual 82, 3) := by decide +kernel
theorem dc_L_law_539 : decode cd_L_law 539 = .ok (.if_icmp .eq 410, 3) := by decide +kernel
theorem dc_L_law_542 : decode cd_L_law 542 = .ok (.iconst 0, 1) := by decide +kernel
theorem dc_L_law_543 : decode cd_L_law 543 = .ok (.ireturn, 1) := by decide +kernel
theorem dc_L_law_544 : decode cd_L_law 544 = .ok (.aload_n 1, 1) := by decide +kernel
theorem dc_L_law_545 : decode cd_L_law 545 = .ok (.aload_n 0, 1) := by decide +kernel
theorem dc_L_law_546 : decode cd_L_law 546 = .ok (.iload 4, 2) := by decide +kernel
theorem dc_L_law_548 : decode cd_L_law 548 = .ok (.iconst 1, 1) := by decide +kernel
theorem dc_L_law_549 : decode cd_L_law 549 = .ok (.iadd, 1) := by decide +kernel
theorem dc_L_law_550 : decode cd_L_law 550 = .ok (.iaload, 1) := by decide +kernel
theorem dc_L_law_551 : decode cd_L_law 551 = .ok (.i2l, 1) := by decide +kernel
theorem dc_L_law_552 : decode cd_L_law 552 = .ok (.bipush 32, 2) := by decide +kernel
theorem dc_L_law_554 : decode cd_L_law 554 = .ok (.lshl, 1) := by decide +kernel
theorem dc_L_law_555 : decode cd_L_law 555 = .ok (.aload_n 0, 1) := by decide +kernel
theorem dc_L_law_556 : decode cd_L_law 556 = .ok (.iload 4, 2) := by decide +kernel
theorem dc_L_law_558 : decode cd_L_law 558 = .ok (.iconst 2, 1) := by decide +kernel
theorem dc_L_law_559 : decode cd_L_law 559 = .ok (.iadd, 1) := by decide +kernel
theorem dc_L_law_560 : decode cd_L_law 560 = .ok (.iaload, 1) := by decide +kernel
theorem dc_L_law_561 : decode cd_L_law 561 = .ok (.i2l, 1) := by decide +kernel
theorem dc_L_law_562 : decode cd_L_law 562 = .ok (.ldc2_w 73, 3) := by decide +kernel
theorem dc_L_law_565 : decode cd_L_law 565 = .ok (.land, 1) := by decide +kernel
theorem dc_L_law_566 : decode cd_L_law 566 = .ok (.lor, 1) := by decide +kernel
theorem dc_L_law_567 : decode cd_L_law 567 = .ok (.aload_n 0, 1) := by decide +kernel
theorem dc_L_law_568 : decode cd_L_law 568 = .ok (.iload 4, 2) := by decide +kernel
theorem dc_L_law_570 : decode cd_L_law 570 = .ok (.iconst 3, 1) := by decide +kernel
theorem dc_L_law_571 : decode cd_L_law 571 = .ok (.iadd, 1) := by decide +kernel
theorem dc_L_law_572 : decode cd_L_law 572 = .ok (.iaload, 1) := by decide +kernel
theorem dc_L_law_573 : decode cd_L_law 573 = .ok (.aload_n 0, 1) := by decide +kernel
theorem dc_L_law_574 : decode cd_L_law 574 = .ok (.iload 4, 2) := by decide +kernel
theorem dc_L_law_576 : decode cd_L_law 576 = .ok (.iconst 4, 1) := by decide +kernel
theorem dc_L_law_577 : decode cd_L_law 577 = .ok (.iadd, 1) := by decide +kernel
theorem dc_L_law_578 : decode cd_L_law 578 = .ok (.iaload, 1) := by decide +kernel
theorem dc_L_law_579 : decode cd_L_law 579 = .ok (.aload_n 0, 1) := by decide +kernel
theorem dc_L_law_580 : decode cd_L_law 580 = .ok (.iload 4, 2) := by decide +kernel
theorem dc_L_law_582 : decode cd_L_law 582 = .ok (.iconst 5, 1) := by decide +kernel
theorem dc_L_law_583 : decode cd_L_law 583 = .ok (.iadd, 1) := by decide +kernel
theorem dc_L_law_584 : decode cd_L_law 584 = .ok (.iaload, 1) := by decide +kernel
theorem dc_L_law_585 : decode cd_L_law 585 = .ok (.i2l, 1) := by decide +kernel
theorem dc_L_law_586 : decode cd_L_law 586 = .ok (.bipush 32, 2) := by decide +kernel
theorem dc_L_law_588 : decode cd_L_law 588 = .ok (.lshl, 1) := by decide +kernel
theorem dc_L_law_589 : decode cd_L_law 589 = .ok (.aload_n 0, 1) := by decide +kernel
theorem dc_L_law_590 : decode cd_L_law 590 = .ok (.iload 4, 2) := by decide +kernel
theorem dc_L_law_592 : decode cd_L_law 592 = .ok (.bipush 6, 2) := by decide +kernel
theorem dc_L_law_594 : decode cd_L_law 594 = .ok (.iadd, 1) := by decide +kernel
theorem dc_L_law_595 : decode cd_L_law 595 = .ok (.iaload, 1) := by decide +kernel
theorem dc_L_law_596 : decode cd_L_law 596 = .ok (.i2l, 1) := by decide +kernel
theorem dc_L_law_597 : decode cd_L_law 597 = .ok (.ldc2_w 73, 3) := by decide +kernel
theorem dc_L_law_600 : decode cd_L_law 600 = .ok (.land, 1) := by decide +kernel
theorem dc_L_law_601 : decode cd_L_law 601 = .ok (.lor, 1) := by decide +kernel
theorem dc_L_law_602 : decode cd_L_law 602 = .ok (.aload_n 3, 1) := by decide +kernel
theorem dc_L_law_603 : decode cd_L_law 603 = .ok (.invokestatic 83, 3) := by decide +kernel
theorem dc_L_law_606 : decode cd_L_law 606 = .ok (.istore 5, 2) := by decide +kernel
theorem dc_L_law_608 : decode cd_L_law 608 = .ok (.aload_n 2, 1) := by decide +kernel
theorem dc_L_law_609 : decode cd_L_law 609 = .ok (.aload_n 0, 1) := by decide +kernel
theorem dc_L_law_610 : decode cd_L_law 610 = .ok (.iload 4, 2) := by decide +kernel
theorem dc_L_law_612 : decode cd_L_law 612 = .ok (.iconst 1, 1) := by decide +kernel
theorem dc_L_law_613 : decode cd_L_law 613 = .ok (.iadd, 1) := by decide +kernel
theorem dc_L_law_614 : decode cd_L_law 614 = .ok (.iaload, 1) := by decide +kernel
theorem dc_L_law_615 : decode cd_L_law 615 = .ok (.i2l, 1) := by decide +kernel
theorem dc_L_law_616 : decode cd_L_law 616 = .ok (.bipush 32, 2) := by decide +kernel
theorem dc_L_law_618 : decode cd_L_law 618 = .ok (.lshl, 1) := by decide +kernel
theorem dc_L_law_619 : decode cd_L_law 619 = .ok (.aload_n 0, 1) := by decide +kernel
