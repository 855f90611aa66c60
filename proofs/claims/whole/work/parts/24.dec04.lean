theorem dc_M_seal_230 : decode cd_M_seal 230 = .ok (.getfield 66, 3) := by decide +kernel
theorem dc_M_seal_233 : decode cd_M_seal 233 = .ok (.if_icmp .ge 15, 3) := by decide +kernel
theorem dc_M_seal_236 : decode cd_M_seal 236 = .ok (.aload_n 0, 1) := by decide +kernel
theorem dc_M_seal_237 : decode cd_M_seal 237 = .ok (.iload 10, 2) := by decide +kernel
theorem dc_M_seal_239 : decode cd_M_seal 239 = .ok (.invokevirtual 86, 3) := by decide +kernel
theorem dc_M_seal_242 : decode cd_M_seal 242 = .ok (.iinc 10 1, 3) := by decide +kernel
theorem dc_M_seal_245 : decode cd_M_seal 245 = .ok (.goto (-18), 3) := by decide +kernel
theorem dc_M_seal_248 : decode cd_M_seal 248 = .ok (.aload_n 0, 1) := by decide +kernel
theorem dc_M_seal_249 : decode cd_M_seal 249 = .ok (.iload 7, 2) := by decide +kernel
theorem dc_M_seal_251 : decode cd_M_seal 251 = .ok (.aload_n 0, 1) := by decide +kernel
theorem dc_M_seal_252 : decode cd_M_seal 252 = .ok (.iload 7, 2) := by decide +kernel
theorem dc_M_seal_254 : decode cd_M_seal 254 = .ok (.bipush 21, 2) := by decide +kernel
theorem dc_M_seal_256 : decode cd_M_seal 256 = .ok (.iadd, 1) := by decide +kernel
theorem dc_M_seal_257 : decode cd_M_seal 257 = .ok (.aload_n 0, 1) := by decide +kernel
theorem dc_M_seal_258 : decode cd_M_seal 258 = .ok (.getfield 33, 3) := by decide +kernel
theorem dc_M_seal_261 : decode cd_M_seal 261 = .ok (.invokevirtual 48, 3) := by decide +kernel
theorem dc_M_seal_264 : decode cd_M_seal 264 = .ok (.invokevirtual 52, 3) := by decide +kernel
theorem dc_M_seal_267 : decode cd_M_seal 267 = .ok (.aload_n 0, 1) := by decide +kernel
theorem dc_M_seal_268 : decode cd_M_seal 268 = .ok (.iconst 0, 1) := by decide +kernel
theorem dc_M_seal_269 : decode cd_M_seal 269 = .ok (.putfield 66, 3) := by decide +kernel
theorem dc_M_seal_272 : decode cd_M_seal 272 = .ok (.aload_n 0, 1) := by decide +kernel
theorem dc_M_seal_273 : decode cd_M_seal 273 = .ok (.getfield 33, 3) := by decide +kernel
theorem dc_M_seal_276 : decode cd_M_seal 276 = .ok (.ireturn, 1) := by decide +kernel
theorem dc_M_putRecord_0 : decode cd_M_putRecord 0 = .ok (.aload_n 0, 1) := by decide +kernel
theorem dc_M_putRecord_1 : decode cd_M_putRecord 1 = .ok (.aload_n 0, 1) := by decide +kernel
theorem dc_M_putRecord_2 : decode cd_M_putRecord 2 = .ok (.iload_n 1, 1) := by decide +kernel
theorem dc_M_putRecord_3 : decode cd_M_putRecord 3 = .ok (.invokevirtual 69, 3) := by decide +kernel
theorem dc_M_putRecord_6 : decode cd_M_putRecord 6 = .ok (.i2l, 1) := by decide +kernel
theorem dc_M_putRecord_7 : decode cd_M_putRecord 7 = .ok (.invokevirtual 80, 3) := by decide +kernel
theorem dc_M_putRecord_10 : decode cd_M_putRecord 10 = .ok (.aload_n 0, 1) := by decide +kernel
theorem dc_M_putRecord_11 : decode cd_M_putRecord 11 = .ok (.lconst 0, 1) := by decide +kernel
theorem dc_M_putRecord_12 : decode cd_M_putRecord 12 = .ok (.iconst 1, 1) := by decide +kernel
theorem dc_M_putRecord_13 : decode cd_M_putRecord 13 = .ok (.invokevirtual 36, 3) := by decide +kernel
theorem dc_M_putRecord_16 : decode cd_M_putRecord 16 = .ok (.aload_n 0, 1) := by decide +kernel
theorem dc_M_putRecord_17 : decode cd_M_putRecord 17 = .ok (.aload_n 0, 1) := by decide +kernel
theorem dc_M_putRecord_18 : decode cd_M_putRecord 18 = .ok (.getfield 26, 3) := by decide +kernel
theorem dc_M_putRecord_21 : decode cd_M_putRecord 21 = .ok (.iload_n 1, 1) := by decide +kernel
theorem dc_M_putRecord_22 : decode cd_M_putRecord 22 = .ok (.iaload, 1) := by decide +kernel
theorem dc_M_putRecord_23 : decode cd_M_putRecord 23 = .ok (.i2l, 1) := by decide +kernel
theorem dc_M_putRecord_24 : decode cd_M_putRecord 24 = .ok (.invokevirtual 80, 3) := by decide +kernel
theorem dc_M_putRecord_27 : decode cd_M_putRecord 27 = .ok (.aload_n 0, 1) := by decide +kernel
theorem dc_M_putRecord_28 : decode cd_M_putRecord 28 = .ok (.iload_n 1, 1) := by decide +kernel
theorem dc_M_putRecord_29 : decode cd_M_putRecord 29 = .ok (.i2l, 1) := by decide +kernel
theorem dc_M_putRecord_30 : decode cd_M_putRecord 30 = .ok (.invokevirtual 80, 3) := by decide +kernel
theorem dc_M_putRecord_33 : decode cd_M_putRecord 33 = .ok (.aload_n 0, 1) := by decide +kernel
theorem dc_M_putRecord_34 : decode cd_M_putRecord 34 = .ok (.aload_n 0, 1) := by decide +kernel
theorem dc_M_putRecord_35 : decode cd_M_putRecord 35 = .ok (.getfield 17, 3) := by decide +kernel
theorem dc_M_putRecord_38 : decode cd_M_putRecord 38 = .ok (.iload_n 1, 1) := by decide +kernel
theorem dc_M_putRecord_39 : decode cd_M_putRecord 39 = .ok (.iaload, 1) := by decide +kernel
theorem dc_M_putRecord_40 : decode cd_M_putRecord 40 = .ok (.i2l, 1) := by decide +kernel
theorem dc_M_putRecord_41 : decode cd_M_putRecord 41 = .ok (.invokevirtual 80, 3) := by decide +kernel
theorem dc_M_putRecord_44 : decode cd_M_putRecord 44 = .ok (.aload_n 0, 1) := by decide +kernel
theorem dc_M_putRecord_45 : decode cd_M_putRecord 45 = .ok (.getfield 17, 3) := by decide +kernel
theorem dc_M_putRecord_48 : decode cd_M_putRecord 48 = .ok (.iload_n 1, 1) := by decide +kernel
theorem dc_M_putRecord_49 : decode cd_M_putRecord 49 = .ok (.iaload, 1) := by decide +kernel
theorem dc_M_putRecord_50 : decode cd_M_putRecord 50 = .ok (.ifCond .le 19, 3) := by decide +kernel
theorem dc_M_putRecord_53 : decode cd_M_putRecord 53 = .ok (.aload_n 0, 1) := by decide +kernel
theorem dc_M_putRecord_54 : decode cd_M_putRecord 54 = .ok (.aload_n 0, 1) := by decide +kernel
theorem dc_M_putRecord_55 : decode cd_M_putRecord 55 = .ok (.getfield 13, 3) := by decide +kernel
theorem dc_M_putRecord_58 : decode cd_M_putRecord 58 = .ok (.iload_n 1, 1) := by decide +kernel
theorem dc_M_putRecord_59 : decode cd_M_putRecord 59 = .ok (.laload, 1) := by decide +kernel
theorem dc_M_putRecord_60 : decode cd_M_putRecord 60 = .ok (.aload_n 0, 1) := by decide +kernel
theorem dc_M_putRecord_61 : decode cd_M_putRecord 61 = .ok (.getfield 17, 3) := by decide +kernel
theorem dc_M_putRecord_64 : decode cd_M_putRecord 64 = .ok (.iload_n 1, 1) := by decide +kernel
theorem dc_M_putRecord_65 : decode cd_M_putRecord 65 = .ok (.iaload, 1) := by decide +kernel
theorem dc_M_putRecord_66 : decode cd_M_putRecord 66 = .ok (.invokevirtual 36, 3) := by decide +kernel
theorem dc_M_putRecord_69 : decode cd_M_putRecord 69 = .ok (.aload_n 0, 1) := by decide +kernel
theorem dc_M_putRecord_70 : decode cd_M_putRecord 70 = .ok (.aload_n 0, 1) := by decide +kernel
theorem dc_M_putRecord_71 : decode cd_M_putRecord 71 = .ok (.getfield 23, 3) := by decide +kernel
theorem dc_M_putRecord_74 : decode cd_M_putRecord 74 = .ok (.iload_n 1, 1) := by decide +kernel
theorem dc_M_putRecord_75 : decode cd_M_putRecord 75 = .ok (.iaload, 1) := by decide +kernel
theorem dc_M_putRecord_76 : decode cd_M_putRecord 76 = .ok (.i2l, 1) := by decide +kernel
theorem dc_M_putRecord_77 : decode cd_M_putRecord 77 = .ok (.invokevirtual 80, 3) := by decide +kernel
theorem dc_M_putRecord_80 : decode cd_M_putRecord 80 = .ok (.iconst 0, 1) := by decide +kernel
theorem dc_M_putRecord_81 : decode cd_M_putRecord 81 = .ok (.istore_n 2, 1) := by decide +kernel
theorem dc_M_putRecord_82 : decode cd_M_putRecord 82 = .ok (.iload_n 2, 1) := by decide +kernel
theorem dc_M_putRecord_83 : decode cd_M_putRecord 83 = .ok (.aload_n 0, 1) := by decide +kernel
theorem dc_M_putRecord_84 : decode cd_M_putRecord 84 = .ok (.getfield 23, 3) := by decide +kernel
theorem dc_M_putRecord_87 : decode cd_M_putRecord 87 = .ok (.iload_n 1, 1) := by decide +kernel
theorem dc_M_putRecord_88 : decode cd_M_putRecord 88 = .ok (.iaload, 1) := by decide +kernel
theorem dc_M_putRecord_89 : decode cd_M_putRecord 89 = .ok (.if_icmp .ge 28, 3) := by decide +kernel
theorem dc_M_putRecord_92 : decode cd_M_putRecord 92 = .ok (.aload_n 0, 1) := by decide +kernel
theorem dc_M_putRecord_93 : decode cd_M_putRecord 93 = .ok (.aload_n 0, 1) := by decide +kernel
theorem dc_M_putRecord_94 : decode cd_M_putRecord 94 = .ok (.getfield 20, 3) := by decide +kernel
theorem dc_M_putRecord_97 : decode cd_M_putRecord 97 = .ok (.iload_n 1, 1) := by decide +kernel
theorem dc_M_putRecord_98 : decode cd_M_putRecord 98 = .ok (.laload, 1) := by decide +kernel
theorem dc_M_putRecord_99 : decode cd_M_putRecord 99 = .ok (.bipush 8, 2) := by decide +kernel
theorem dc_M_putRecord_101 : decode cd_M_putRecord 101 = .ok (.iload_n 2, 1) := by decide +kernel
theorem dc_M_putRecord_102 : decode cd_M_putRecord 102 = .ok (.bipush 8, 2) := by decide +kernel
theorem dc_M_putRecord_104 : decode cd_M_putRecord 104 = .ok (.irem, 1) := by decide +kernel
theorem dc_M_putRecord_105 : decode cd_M_putRecord 105 = .ok (.imul, 1) := by decide +kernel
theorem dc_M_putRecord_106 : decode cd_M_putRecord 106 = .ok (.lshr, 1) := by decide +kernel
theorem dc_M_putRecord_107 : decode cd_M_putRecord 107 = .ok (.iconst 1, 1) := by decide +kernel
theorem dc_M_putRecord_108 : decode cd_M_putRecord 108 = .ok (.invokevirtual 36, 3) := by decide +kernel
theorem dc_M_putRecord_111 : decode cd_M_putRecord 111 = .ok (.iinc 2 1, 3) := by decide +kernel
theorem dc_M_putRecord_114 : decode cd_M_putRecord 114 = .ok (.goto (-32), 3) := by decide +kernel
theorem dc_M_putRecord_117 : decode cd_M_putRecord 117 = .ok (.aload_n 0, 1) := by decide +kernel
theorem dc_M_putRecord_118 : decode cd_M_putRecord 118 = .ok (.lconst 0, 1) := by decide +kernel
theorem dc_M_putRecord_119 : decode cd_M_putRecord 119 = .ok (.iconst 1, 1) := by decide +kernel
theorem dc_M_putRecord_120 : decode cd_M_putRecord 120 = .ok (.invokevirtual 36, 3) := by decide +kernel
theorem dc_M_putRecord_123 : decode cd_M_putRecord 123 = .ok (.return_, 1) := by decide +kernel
theorem dc_M_varint_0 : decode cd_M_varint 0 = .ok (.lload_n 1, 1) := by decide +kernel
theorem dc_M_varint_1 : decode cd_M_varint 1 = .ok (.lconst 0, 1) := by decide +kernel
theorem dc_M_varint_2 : decode cd_M_varint 2 = .ok (.lcmp, 1) := by decide +kernel
theorem dc_M_varint_3 : decode cd_M_varint 3 = .ok (.ifCond .ge 13, 3) := by decide +kernel
theorem dc_M_varint_6 : decode cd_M_varint 6 = .ok (.ldc2_w 56, 3) := by decide +kernel
theorem dc_M_varint_9 : decode cd_M_varint 9 = .ok (.lload_n 1, 1) := by decide +kernel
theorem dc_M_varint_10 : decode cd_M_varint 10 = .ok (.lmul, 1) := by decide +kernel
theorem dc_M_varint_11 : decode cd_M_varint 11 = .ok (.lconst 1, 1) := by decide +kernel
theorem dc_M_varint_12 : decode cd_M_varint 12 = .ok (.lsub, 1) := by decide +kernel
theorem dc_M_varint_13 : decode cd_M_varint 13 = .ok (.goto 8, 3) := by decide +kernel
theorem dc_M_varint_16 : decode cd_M_varint 16 = .ok (.ldc2_w 58, 3) := by decide +kernel
theorem dc_M_varint_19 : decode cd_M_varint 19 = .ok (.lload_n 1, 1) := by decide +kernel
theorem dc_M_varint_20 : decode cd_M_varint 20 = .ok (.lmul, 1) := by decide +kernel
theorem dc_M_varint_21 : decode cd_M_varint 21 = .ok (.lstore_n 3, 1) := by decide +kernel
theorem dc_M_varint_22 : decode cd_M_varint 22 = .ok (.lload_n 1, 1) := by decide +kernel
theorem dc_M_varint_23 : decode cd_M_varint 23 = .ok (.invokestatic 62, 3) := by decide +kernel
theorem dc_M_varint_26 : decode cd_M_varint 26 = .ok (.istore 5, 2) := by decide +kernel
theorem dc_M_varint_28 : decode cd_M_varint 28 = .ok (.iload 5, 2) := by decide +kernel
theorem dc_M_varint_30 : decode cd_M_varint 30 = .ok (.ifCond .le 38, 3) := by decide +kernel
theorem dc_M_varint_33 : decode cd_M_varint 33 = .ok (.aload_n 0, 1) := by decide +kernel
theorem dc_M_varint_34 : decode cd_M_varint 34 = .ok (.lload_n 3, 1) := by decide +kernel
theorem dc_M_varint_35 : decode cd_M_varint 35 = .ok (.ldc2_w 60, 3) := by decide +kernel
theorem dc_M_varint_38 : decode cd_M_varint 38 = .ok (.land, 1) := by decide +kernel
theorem dc_M_varint_39 : decode cd_M_varint 39 = .ok (.iload 5, 2) := by decide +kernel
theorem dc_M_varint_41 : decode cd_M_varint 41 = .ok (.iconst 1, 1) := by decide +kernel
theorem dc_M_varint_42 : decode cd_M_varint 42 = .ok (.if_icmp .le 9, 3) := by decide +kernel
theorem dc_M_varint_45 : decode cd_M_varint 45 = .ok (.ldc2_w 78, 3) := by decide +kernel
theorem dc_M_varint_48 : decode cd_M_varint 48 = .ok (.goto 4, 3) := by decide +kernel
theorem dc_M_varint_51 : decode cd_M_varint 51 = .ok (.lconst 0, 1) := by decide +kernel
theorem dc_M_varint_52 : decode cd_M_varint 52 = .ok (.ladd, 1) := by decide +kernel
theorem dc_M_varint_53 : decode cd_M_varint 53 = .ok (.iconst 1, 1) := by decide +kernel
theorem dc_M_varint_54 : decode cd_M_varint 54 = .ok (.invokevirtual 36, 3) := by decide +kernel
theorem dc_M_varint_57 : decode cd_M_varint 57 = .ok (.lload_n 3, 1) := by decide +kernel
theorem dc_M_varint_58 : decode cd_M_varint 58 = .ok (.bipush 7, 2) := by decide +kernel
theorem dc_M_varint_60 : decode cd_M_varint 60 = .ok (.lushr, 1) := by decide +kernel
theorem dc_M_varint_61 : decode cd_M_varint 61 = .ok (.lstore_n 3, 1) := by decide +kernel
theorem dc_M_varint_62 : decode cd_M_varint 62 = .ok (.iinc 5 (-1), 3) := by decide +kernel
theorem dc_M_varint_65 : decode cd_M_varint 65 = .ok (.goto (-37), 3) := by decide +kernel
theorem dc_M_varint_68 : decode cd_M_varint 68 = .ok (.return_, 1) := by decide +kernel
theorem dc_M_fault_0 : decode cd_M_fault 0 = .ok (.aload_n 0, 1) := by decide +kernel
theorem dc_M_fault_1 : decode cd_M_fault 1 = .ok (.iload_n 1, 1) := by decide +kernel
theorem dc_M_fault_2 : decode cd_M_fault 2 = .ok (.ifCond .eq 8, 3) := by decide +kernel
theorem dc_M_fault_5 : decode cd_M_fault 5 = .ok (.iload_n 1, 1) := by decide +kernel
theorem dc_M_fault_6 : decode cd_M_fault 6 = .ok (.iconst 1, 1) := by decide +kernel
theorem dc_M_fault_7 : decode cd_M_fault 7 = .ok (.if_icmp .ne 7, 3) := by decide +kernel
theorem dc_M_fault_10 : decode cd_M_fault 10 = .ok (.iconst 0, 1) := by decide +kernel
theorem dc_M_fault_11 : decode cd_M_fault 11 = .ok (.goto 4, 3) := by decide +kernel
theorem dc_M_fault_14 : decode cd_M_fault 14 = .ok (.iconst 1, 1) := by decide +kernel
theorem dc_M_fault_15 : decode cd_M_fault 15 = .ok (.putfield 29, 3) := by decide +kernel
theorem dc_M_fault_18 : decode cd_M_fault 18 = .ok (.aload_n 0, 1) := by decide +kernel
theorem dc_M_fault_19 : decode cd_M_fault 19 = .ok (.getfield 29, 3) := by decide +kernel
theorem dc_M_fault_22 : decode cd_M_fault 22 = .ok (.ifCond .le 5, 3) := by decide +kernel
theorem dc_M_fault_25 : decode cd_M_fault 25 = .ok (.iconst 0, 1) := by decide +kernel
theorem dc_M_fault_26 : decode cd_M_fault 26 = .ok (.ireturn, 1) := by decide +kernel
theorem dc_M_fault_27 : decode cd_M_fault 27 = .ok (.aload_n 0, 1) := by decide +kernel
theorem dc_M_fault_28 : decode cd_M_fault 28 = .ok (.invokevirtual 158, 3) := by decide +kernel
theorem dc_M_fault_31 : decode cd_M_fault 31 = .ok (.iload_n 1, 1) := by decide +kernel
theorem dc_M_fault_32 : decode cd_M_fault 32 = .ok (.ifCond .ne 10, 3) := by decide +kernel
theorem dc_M_fault_35 : decode cd_M_fault 35 = .ok (.aload_n 0, 1) := by decide +kernel
theorem dc_M_fault_36 : decode cd_M_fault 36 = .ok (.getfield 130, 3) := by decide +kernel
theorem dc_M_fault_39 : decode cd_M_fault 39 = .ok (.goto 7, 3) := by decide +kernel
theorem dc_M_fault_42 : decode cd_M_fault 42 = .ok (.aload_n 0, 1) := by decide +kernel
theorem dc_M_fault_43 : decode cd_M_fault 43 = .ok (.getfield 133, 3) := by decide +kernel
theorem dc_M_fault_46 : decode cd_M_fault 46 = .ok (.ireturn, 1) := by decide +kernel
theorem dc_M_read_0 : decode cd_M_read 0 = .ok (.aload_n 0, 1) := by decide +kernel
theorem dc_M_read_1 : decode cd_M_read 1 = .ok (.iconst 0, 1) := by decide +kernel
theorem dc_M_read_2 : decode cd_M_read 2 = .ok (.putfield 130, 3) := by decide +kernel
theorem dc_M_read_5 : decode cd_M_read 5 = .ok (.aload_n 0, 1) := by decide +kernel
theorem dc_M_read_6 : decode cd_M_read 6 = .ok (.iconst (-1), 1) := by decide +kernel
theorem dc_M_read_7 : decode cd_M_read 7 = .ok (.putfield 133, 3) := by decide +kernel
theorem dc_M_read_10 : decode cd_M_read 10 = .ok (.aload_n 0, 1) := by decide +kernel
theorem dc_M_read_11 : decode cd_M_read 11 = .ok (.getfield 33, 3) := by decide +kernel
theorem dc_M_read_14 : decode cd_M_read 14 = .ok (.bipush 61, 2) := by decide +kernel
theorem dc_M_read_16 : decode cd_M_read 16 = .ok (.if_icmp .lt 22, 3) := by decide +kernel
theorem dc_M_read_19 : decode cd_M_read 19 = .ok (.aload_n 0, 1) := by decide +kernel
theorem dc_M_read_20 : decode cd_M_read 20 = .ok (.bipush 8, 2) := by decide +kernel
theorem dc_M_read_22 : decode cd_M_read 22 = .ok (.iconst 4, 1) := by decide +kernel
theorem dc_M_read_23 : decode cd_M_read 23 = .ok (.invokevirtual 136, 3) := by decide +kernel
theorem dc_M_read_26 : decode cd_M_read 26 = .ok (.aload_n 0, 1) := by decide +kernel
theorem dc_M_read_27 : decode cd_M_read 27 = .ok (.getfield 33, 3) := by decide +kernel
theorem dc_M_read_30 : decode cd_M_read 30 = .ok (.bipush 12, 2) := by decide +kernel
theorem dc_M_read_32 : decode cd_M_read 32 = .ok (.isub, 1) := by decide +kernel
theorem dc_M_read_33 : decode cd_M_read 33 = .ok (.i2l, 1) := by decide +kernel
theorem dc_M_read_34 : decode cd_M_read 34 = .ok (.lcmp, 1) := by decide +kernel
theorem dc_M_read_35 : decode cd_M_read 35 = .ok (.ifCond .eq 15, 3) := by decide +kernel
theorem dc_M_read_38 : decode cd_M_read 38 = .ok (.aload_n 0, 1) := by decide +kernel
theorem dc_M_read_39 : decode cd_M_read 39 = .ok (.iconst 1, 1) := by decide +kernel
theorem dc_M_read_40 : decode cd_M_read 40 = .ok (.putfield 130, 3) := by decide +kernel
theorem dc_M_read_43 : decode cd_M_read 43 = .ok (.aload_n 0, 1) := by decide +kernel
theorem dc_M_read_44 : decode cd_M_read 44 = .ok (.bipush 8, 2) := by decide +kernel
theorem dc_M_read_46 : decode cd_M_read 46 = .ok (.putfield 133, 3) := by decide +kernel
theorem dc_M_read_49 : decode cd_M_read 49 = .ok (.return_, 1) := by decide +kernel
theorem dc_M_read_50 : decode cd_M_read 50 = .ok (.aload_n 0, 1) := by decide +kernel
theorem dc_M_read_51 : decode cd_M_read 51 = .ok (.invokevirtual 151, 3) := by decide +kernel
theorem dc_M_read_54 : decode cd_M_read 54 = .ok (.aload_n 0, 1) := by decide +kernel
theorem dc_M_read_55 : decode cd_M_read 55 = .ok (.getfield 130, 3) := by decide +kernel
theorem dc_M_read_58 : decode cd_M_read 58 = .ok (.ifCond .le 4, 3) := by decide +kernel
theorem dc_M_read_61 : decode cd_M_read 61 = .ok (.return_, 1) := by decide +kernel
theorem dc_M_read_62 : decode cd_M_read 62 = .ok (.aload_n 0, 1) := by decide +kernel
theorem dc_M_read_63 : decode cd_M_read 63 = .ok (.bipush 61, 2) := by decide +kernel
theorem dc_M_read_65 : decode cd_M_read 65 = .ok (.putfield 96, 3) := by decide +kernel
theorem dc_M_read_68 : decode cd_M_read 68 = .ok (.lconst 0, 1) := by decide +kernel
theorem dc_M_read_69 : decode cd_M_read 69 = .ok (.lstore_n 1, 1) := by decide +kernel
theorem dc_M_read_70 : decode cd_M_read 70 = .ok (.iconst 0, 1) := by decide +kernel
theorem dc_M_read_71 : decode cd_M_read 71 = .ok (.istore_n 3, 1) := by decide +kernel
theorem dc_M_read_72 : decode cd_M_read 72 = .ok (.iload_n 3, 1) := by decide +kernel
theorem dc_M_read_73 : decode cd_M_read 73 = .ok (.i2l, 1) := by decide +kernel
theorem dc_M_read_74 : decode cd_M_read 74 = .ok (.aload_n 0, 1) := by decide +kernel
theorem dc_M_read_75 : decode cd_M_read 75 = .ok (.bipush 57, 2) := by decide +kernel
theorem dc_M_read_77 : decode cd_M_read 77 = .ok (.iconst 4, 1) := by decide +kernel
theorem dc_M_read_78 : decode cd_M_read 78 = .ok (.invokevirtual 136, 3) := by decide +kernel
theorem dc_M_read_81 : decode cd_M_read 81 = .ok (.lcmp, 1) := by decide +kernel
theorem dc_M_read_82 : decode cd_M_read 82 = .ok (.ifCond .ge 57, 3) := by decide +kernel
theorem dc_M_read_85 : decode cd_M_read 85 = .ok (.aload_n 0, 1) := by decide +kernel
theorem dc_M_read_86 : decode cd_M_read 86 = .ok (.iload_n 3, 1) := by decide +kernel
theorem dc_M_read_87 : decode cd_M_read 87 = .ok (.aload_n 0, 1) := by decide +kernel
theorem dc_M_read_88 : decode cd_M_read 88 = .ok (.bipush 27, 2) := by decide +kernel
theorem dc_M_read_90 : decode cd_M_read 90 = .ok (.bipush 8, 2) := by decide +kernel
theorem dc_M_read_92 : decode cd_M_read 92 = .ok (.invokevirtual 136, 3) := by decide +kernel
theorem dc_M_read_95 : decode cd_M_read 95 = .ok (.invokevirtual 154, 3) := by decide +kernel
theorem dc_M_read_98 : decode cd_M_read 98 = .ok (.ifCond .ne 17, 3) := by decide +kernel
theorem dc_M_read_101 : decode cd_M_read 101 = .ok (.aload_n 0, 1) := by decide +kernel
theorem dc_M_read_102 : decode cd_M_read 102 = .ok (.iconst 4, 1) := by decide +kernel
theorem dc_M_read_103 : decode cd_M_read 103 = .ok (.putfield 130, 3) := by decide +kernel
theorem dc_M_read_106 : decode cd_M_read 106 = .ok (.aload_n 0, 1) := by decide +kernel
theorem dc_M_read_107 : decode cd_M_read 107 = .ok (.aload_n 0, 1) := by decide +kernel
theorem dc_M_read_108 : decode cd_M_read 108 = .ok (.getfield 103, 3) := by decide +kernel
theorem dc_M_read_111 : decode cd_M_read 111 = .ok (.putfield 133, 3) := by decide +kernel
theorem dc_M_read_114 : decode cd_M_read 114 = .ok (.return_, 1) := by decide +kernel
theorem dc_M_read_115 : decode cd_M_read 115 = .ok (.aload_n 0, 1) := by decide +kernel
theorem dc_M_read_116 : decode cd_M_read 116 = .ok (.getfield 109, 3) := by decide +kernel
theorem dc_M_read_119 : decode cd_M_read 119 = .ok (.lload_n 1, 1) := by decide +kernel
theorem dc_M_read_120 : decode cd_M_read 120 = .ok (.lcmp, 1) := by decide +kernel
theorem dc_M_read_121 : decode cd_M_read 121 = .ok (.ifCond .le 10, 3) := by decide +kernel
theorem dc_M_read_124 : decode cd_M_read 124 = .ok (.aload_n 0, 1) := by decide +kernel
theorem dc_M_read_125 : decode cd_M_read 125 = .ok (.getfield 109, 3) := by decide +kernel
theorem dc_M_read_128 : decode cd_M_read 128 = .ok (.goto 4, 3) := by decide +kernel
theorem dc_M_read_131 : decode cd_M_read 131 = .ok (.lload_n 1, 1) := by decide +kernel
theorem dc_M_read_132 : decode cd_M_read 132 = .ok (.lstore_n 1, 1) := by decide +kernel
theorem dc_M_read_133 : decode cd_M_read 133 = .ok (.iinc 3 1, 3) := by decide +kernel
theorem dc_M_read_136 : decode cd_M_read 136 = .ok (.goto (-64), 3) := by decide +kernel
theorem dc_M_read_139 : decode cd_M_read 139 = .ok (.aload_n 0, 1) := by decide +kernel
theorem dc_M_read_140 : decode cd_M_read 140 = .ok (.getfield 96, 3) := by decide +kernel
theorem dc_M_read_143 : decode cd_M_read 143 = .ok (.aload_n 0, 1) := by decide +kernel
theorem dc_M_read_144 : decode cd_M_read 144 = .ok (.getfield 33, 3) := by decide +kernel
theorem dc_M_read_147 : decode cd_M_read 147 = .ok (.if_icmp .ge 19, 3) := by decide +kernel
theorem dc_M_read_150 : decode cd_M_read 150 = .ok (.aload_n 0, 1) := by decide +kernel
theorem dc_M_read_151 : decode cd_M_read 151 = .ok (.iconst 4, 1) := by decide +kernel
theorem dc_M_read_152 : decode cd_M_read 152 = .ok (.putfield 130, 3) := by decide +kernel
theorem dc_M_read_155 : decode cd_M_read 155 = .ok (.aload_n 0, 1) := by decide +kernel
theorem dc_M_read_156 : decode cd_M_read 156 = .ok (.aload_n 0, 1) := by decide +kernel
theorem dc_M_read_157 : decode cd_M_read 157 = .ok (.getfield 96, 3) := by decide +kernel
theorem dc_M_read_160 : decode cd_M_read 160 = .ok (.putfield 133, 3) := by decide +kernel
theorem dc_M_read_163 : decode cd_M_read 163 = .ok (.goto 27, 3) := by decide +kernel
theorem dc_M_read_166 : decode cd_M_read 166 = .ok (.lload_n 1, 1) := by decide +kernel
theorem dc_M_read_167 : decode cd_M_read 167 = .ok (.aload_n 0, 1) := by decide +kernel
theorem dc_M_read_168 : decode cd_M_read 168 = .ok (.bipush 35, 2) := by decide +kernel
theorem dc_M_read_170 : decode cd_M_read 170 = .ok (.bipush 8, 2) := by decide +kernel
theorem dc_M_read_172 : decode cd_M_read 172 = .ok (.invokevirtual 136, 3) := by decide +kernel
theorem dc_M_read_175 : decode cd_M_read 175 = .ok (.lcmp, 1) := by decide +kernel
theorem dc_M_read_176 : decode cd_M_read 176 = .ok (.ifCond .eq 14, 3) := by decide +kernel
theorem dc_M_read_179 : decode cd_M_read 179 = .ok (.aload_n 0, 1) := by decide +kernel
theorem dc_M_read_180 : decode cd_M_read 180 = .ok (.iconst 5, 1) := by decide +kernel
theorem dc_M_read_181 : decode cd_M_read 181 = .ok (.putfield 130, 3) := by decide +kernel
theorem dc_M_read_184 : decode cd_M_read 184 = .ok (.aload_n 0, 1) := by decide +kernel
theorem dc_M_read_185 : decode cd_M_read 185 = .ok (.bipush 35, 2) := by decide +kernel
theorem dc_M_read_187 : decode cd_M_read 187 = .ok (.putfield 133, 3) := by decide +kernel
theorem dc_M_read_190 : decode cd_M_read 190 = .ok (.return_, 1) := by decide +kernel
theorem dc_M_number_0 : decode cd_M_number 0 = .ok (.aload_n 0, 1) := by decide +kernel
theorem dc_M_number_1 : decode cd_M_number 1 = .ok (.getfield 7, 3) := by decide +kernel
theorem dc_M_number_4 : decode cd_M_number 4 = .ok (.iload_n 1, 1) := by decide +kernel
theorem dc_M_number_5 : decode cd_M_number 5 = .ok (.iaload, 1) := by decide +kernel
theorem dc_M_number_6 : decode cd_M_number 6 = .ok (.bipush 127, 2) := by decide +kernel
theorem dc_M_number_8 : decode cd_M_number 8 = .ok (.if_icmp .le 9, 3) := by decide +kernel
theorem dc_M_number_11 : decode cd_M_number 11 = .ok (.ldc2_w 90, 3) := by decide +kernel
theorem dc_M_number_14 : decode cd_M_number 14 = .ok (.goto 4, 3) := by decide +kernel
theorem dc_M_number_17 : decode cd_M_number 17 = .ok (.lconst 0, 1) := by decide +kernel
theorem dc_M_number_18 : decode cd_M_number 18 = .ok (.lstore_n 3, 1) := by decide +kernel
theorem dc_M_number_19 : decode cd_M_number 19 = .ok (.iconst 0, 1) := by decide +kernel
theorem dc_M_number_20 : decode cd_M_number 20 = .ok (.istore 5, 2) := by decide +kernel
theorem dc_M_number_22 : decode cd_M_number 22 = .ok (.iload 5, 2) := by decide +kernel
theorem dc_M_number_24 : decode cd_M_number 24 = .ok (.iload_n 2, 1) := by decide +kernel
theorem dc_M_number_25 : decode cd_M_number 25 = .ok (.if_icmp .ge 25, 3) := by decide +kernel
theorem dc_M_number_28 : decode cd_M_number 28 = .ok (.lload_n 3, 1) := by decide +kernel
theorem dc_M_number_29 : decode cd_M_number 29 = .ok (.bipush 8, 2) := by decide +kernel
theorem dc_M_number_31 : decode cd_M_number 31 = .ok (.lshl, 1) := by decide +kernel
theorem dc_M_number_32 : decode cd_M_number 32 = .ok (.aload_n 0, 1) := by decide +kernel
theorem dc_M_number_33 : decode cd_M_number 33 = .ok (.getfield 7, 3) := by decide +kernel
theorem dc_M_number_36 : decode cd_M_number 36 = .ok (.iload_n 1, 1) := by decide +kernel
theorem dc_M_number_37 : decode cd_M_number 37 = .ok (.iload 5, 2) := by decide +kernel
theorem dc_M_number_39 : decode cd_M_number 39 = .ok (.iadd, 1) := by decide +kernel
theorem dc_M_number_40 : decode cd_M_number 40 = .ok (.iaload, 1) := by decide +kernel
theorem dc_M_number_41 : decode cd_M_number 41 = .ok (.i2l, 1) := by decide +kernel
theorem dc_M_number_42 : decode cd_M_number 42 = .ok (.lor, 1) := by decide +kernel
theorem dc_M_number_43 : decode cd_M_number 43 = .ok (.lstore_n 3, 1) := by decide +kernel
theorem dc_M_number_44 : decode cd_M_number 44 = .ok (.iinc 5 1, 3) := by decide +kernel
theorem dc_M_number_47 : decode cd_M_number 47 = .ok (.goto (-25), 3) := by decide +kernel
theorem dc_M_number_50 : decode cd_M_number 50 = .ok (.lload_n 3, 1) := by decide +kernel
theorem dc_M_number_51 : decode cd_M_number 51 = .ok (.lreturn, 1) := by decide +kernel
theorem dc_M_readHead_0 : decode cd_M_readHead 0 = .ok (.aload_n 0, 1) := by decide +kernel
theorem dc_M_readHead_1 : decode cd_M_readHead 1 = .ok (.bipush 57, 2) := by decide +kernel
theorem dc_M_readHead_3 : decode cd_M_readHead 3 = .ok (.iconst 4, 1) := by decide +kernel
theorem dc_M_readHead_4 : decode cd_M_readHead 4 = .ok (.invokevirtual 136, 3) := by decide +kernel
theorem dc_M_readHead_7 : decode cd_M_readHead 7 = .ok (.lstore_n 1, 1) := by decide +kernel
theorem dc_M_readHead_8 : decode cd_M_readHead 8 = .ok (.aload_n 0, 1) := by decide +kernel
theorem dc_M_readHead_9 : decode cd_M_readHead 9 = .ok (.bipush 43, 2) := by decide +kernel
theorem dc_M_readHead_11 : decode cd_M_readHead 11 = .ok (.bipush 8, 2) := by decide +kernel
theorem dc_M_readHead_13 : decode cd_M_readHead 13 = .ok (.invokevirtual 136, 3) := by decide +kernel
theorem dc_M_readHead_16 : decode cd_M_readHead 16 = .ok (.lstore_n 3, 1) := by decide +kernel
theorem dc_M_readHead_17 : decode cd_M_readHead 17 = .ok (.aload_n 0, 1) := by decide +kernel
theorem dc_M_readHead_18 : decode cd_M_readHead 18 = .ok (.aload_n 0, 1) := by decide +kernel
theorem dc_M_readHead_19 : decode cd_M_readHead 19 = .ok (.iconst 0, 1) := by decide +kernel
theorem dc_M_readHead_20 : decode cd_M_readHead 20 = .ok (.bipush 8, 2) := by decide +kernel
theorem dc_M_readHead_22 : decode cd_M_readHead 22 = .ok (.invokevirtual 136, 3) := by decide +kernel
theorem dc_M_readHead_25 : decode cd_M_readHead 25 = .ok (.lconst 0, 1) := by decide +kernel
theorem dc_M_readHead_26 : decode cd_M_readHead 26 = .ok (.lcmp, 1) := by decide +kernel
theorem dc_M_readHead_27 : decode cd_M_readHead 27 = .ok (.ifCond .ne 7, 3) := by decide +kernel
theorem dc_M_readHead_30 : decode cd_M_readHead 30 = .ok (.iconst 1, 1) := by decide +kernel
theorem dc_M_readHead_31 : decode cd_M_readHead 31 = .ok (.goto 4, 3) := by decide +kernel
theorem dc_M_readHead_34 : decode cd_M_readHead 34 = .ok (.iconst 0, 1) := by decide +kernel
theorem dc_M_readHead_35 : decode cd_M_readHead 35 = .ok (.iconst 0, 1) := by decide +kernel
theorem dc_M_readHead_36 : decode cd_M_readHead 36 = .ok (.invokevirtual 139, 3) := by decide +kernel
theorem dc_M_readHead_39 : decode cd_M_readHead 39 = .ok (.aload_n 0, 1) := by decide +kernel
theorem dc_M_readHead_40 : decode cd_M_readHead 40 = .ok (.aload_n 0, 1) := by decide +kernel
theorem dc_M_readHead_41 : decode cd_M_readHead 41 = .ok (.bipush 12, 2) := by decide +kernel
theorem dc_M_readHead_43 : decode cd_M_readHead 43 = .ok (.iconst 4, 1) := by decide +kernel
theorem dc_M_readHead_44 : decode cd_M_readHead 44 = .ok (.invokevirtual 136, 3) := by decide +kernel
theorem dc_M_readHead_47 : decode cd_M_readHead 47 = .ok (.lconst 0, 1) := by decide +kernel
theorem dc_M_readHead_48 : decode cd_M_readHead 48 = .ok (.lcmp, 1) := by decide +kernel
theorem dc_M_readHead_49 : decode cd_M_readHead 49 = .ok (.ifCond .ne 7, 3) := by decide +kernel
theorem dc_M_readHead_52 : decode cd_M_readHead 52 = .ok (.iconst 1, 1) := by decide +kernel
theorem dc_M_readHead_53 : decode cd_M_readHead 53 = .ok (.goto 4, 3) := by decide +kernel
theorem dc_M_readHead_56 : decode cd_M_readHead 56 = .ok (.iconst 0, 1) := by decide +kernel
theorem dc_M_readHead_57 : decode cd_M_readHead 57 = .ok (.bipush 12, 2) := by decide +kernel
theorem dc_M_readHead_59 : decode cd_M_readHead 59 = .ok (.invokevirtual 139, 3) := by decide +kernel
theorem dc_M_readHead_62 : decode cd_M_readHead 62 = .ok (.iand, 1) := by decide +kernel
theorem dc_M_readHead_63 : decode cd_M_readHead 63 = .ok (.aload_n 0, 1) := by decide +kernel
theorem dc_M_readHead_64 : decode cd_M_readHead 64 = .ok (.aload_n 0, 1) := by decide +kernel
theorem dc_M_readHead_65 : decode cd_M_readHead 65 = .ok (.getfield 7, 3) := by decide +kernel
theorem dc_M_readHead_68 : decode cd_M_readHead 68 = .ok (.bipush 16, 2) := by decide +kernel
theorem dc_M_readHead_70 : decode cd_M_readHead 70 = .ok (.iaload, 1) := by decide +kernel
theorem dc_M_readHead_71 : decode cd_M_readHead 71 = .ok (.iconst 2, 1) := by decide +kernel
theorem dc_M_readHead_72 : decode cd_M_readHead 72 = .ok (.if_icmp .ne 7, 3) := by decide +kernel
theorem dc_M_readHead_75 : decode cd_M_readHead 75 = .ok (.iconst 1, 1) := by decide +kernel
theorem dc_M_readHead_76 : decode cd_M_readHead 76 = .ok (.goto 4, 3) := by decide +kernel
theorem dc_M_readHead_79 : decode cd_M_readHead 79 = .ok (.iconst 0, 1) := by decide +kernel
theorem dc_M_readHead_80 : decode cd_M_readHead 80 = .ok (.bipush 16, 2) := by decide +kernel
theorem dc_M_readHead_82 : decode cd_M_readHead 82 = .ok (.invokevirtual 139, 3) := by decide +kernel
theorem dc_M_readHead_85 : decode cd_M_readHead 85 = .ok (.iand, 1) := by decide +kernel
theorem dc_M_readHead_86 : decode cd_M_readHead 86 = .ok (.aload_n 0, 1) := by decide +kernel
theorem dc_M_readHead_87 : decode cd_M_readHead 87 = .ok (.aload_n 0, 1) := by decide +kernel
theorem dc_M_readHead_88 : decode cd_M_readHead 88 = .ok (.bipush 21, 2) := by decide +kernel
theorem dc_M_readHead_90 : decode cd_M_readHead 90 = .ok (.iconst 2, 1) := by decide +kernel
theorem dc_M_readHead_91 : decode cd_M_readHead 91 = .ok (.invokevirtual 136, 3) := by decide +kernel
theorem dc_M_readHead_94 : decode cd_M_readHead 94 = .ok (.lconst 0, 1) := by decide +kernel
theorem dc_M_readHead_95 : decode cd_M_readHead 95 = .ok (.lcmp, 1) := by decide +kernel
theorem dc_M_readHead_96 : decode cd_M_readHead 96 = .ok (.ifCond .ne 7, 3) := by decide +kernel
theorem dc_M_readHead_99 : decode cd_M_readHead 99 = .ok (.iconst 1, 1) := by decide +kernel
theorem dc_M_readHead_100 : decode cd_M_readHead 100 = .ok (.goto 4, 3) := by decide +kernel
theorem dc_M_readHead_103 : decode cd_M_readHead 103 = .ok (.iconst 0, 1) := by decide +kernel
theorem dc_M_readHead_104 : decode cd_M_readHead 104 = .ok (.bipush 21, 2) := by decide +kernel
theorem dc_M_readHead_106 : decode cd_M_readHead 106 = .ok (.invokevirtual 139, 3) := by decide +kernel
theorem dc_M_readHead_109 : decode cd_M_readHead 109 = .ok (.iand, 1) := by decide +kernel
theorem dc_M_readHead_110 : decode cd_M_readHead 110 = .ok (.istore 5, 2) := by decide +kernel
theorem dc_M_readHead_112 : decode cd_M_readHead 112 = .ok (.iload 5, 2) := by decide +kernel
theorem dc_M_readHead_114 : decode cd_M_readHead 114 = .ok (.aload_n 0, 1) := by decide +kernel
theorem dc_M_readHead_115 : decode cd_M_readHead 115 = .ok (.aload_n 0, 1) := by decide +kernel
theorem dc_M_readHead_116 : decode cd_M_readHead 116 = .ok (.bipush 23, 2) := by decide +kernel
theorem dc_M_readHead_118 : decode cd_M_readHead 118 = .ok (.iconst 4, 1) := by decide +kernel
theorem dc_M_readHead_119 : decode cd_M_readHead 119 = .ok (.invokevirtual 136, 3) := by decide +kernel
theorem dc_M_readHead_122 : decode cd_M_readHead 122 = .ok (.lload_n 1, 1) := by decide +kernel
theorem dc_M_readHead_123 : decode cd_M_readHead 123 = .ok (.lconst 1, 1) := by decide +kernel
theorem dc_M_readHead_124 : decode cd_M_readHead 124 = .ok (.lsub, 1) := by decide +kernel
theorem dc_M_readHead_125 : decode cd_M_readHead 125 = .ok (.lcmp, 1) := by decide +kernel
theorem dc_M_readHead_126 : decode cd_M_readHead 126 = .ok (.ifCond .ne 7, 3) := by decide +kernel
theorem dc_M_readHead_129 : decode cd_M_readHead 129 = .ok (.iconst 1, 1) := by decide +kernel
theorem dc_M_readHead_130 : decode cd_M_readHead 130 = .ok (.goto 4, 3) := by decide +kernel
theorem dc_M_readHead_133 : decode cd_M_readHead 133 = .ok (.iconst 0, 1) := by decide +kernel
theorem dc_M_readHead_134 : decode cd_M_readHead 134 = .ok (.bipush 23, 2) := by decide +kernel
theorem dc_M_readHead_136 : decode cd_M_readHead 136 = .ok (.invokevirtual 139, 3) := by decide +kernel
theorem dc_M_readHead_139 : decode cd_M_readHead 139 = .ok (.iand, 1) := by decide +kernel
theorem dc_M_readHead_140 : decode cd_M_readHead 140 = .ok (.istore 5, 2) := by decide +kernel
theorem dc_M_readHead_142 : decode cd_M_readHead 142 = .ok (.iload 5, 2) := by decide +kernel
theorem dc_M_readHead_144 : decode cd_M_readHead 144 = .ok (.aload_n 0, 1) := by decide +kernel
theorem dc_M_readHead_145 : decode cd_M_readHead 145 = .ok (.aload_n 0, 1) := by decide +kernel
theorem dc_M_readHead_146 : decode cd_M_readHead 146 = .ok (.bipush 27, 2) := by decide +kernel
theorem dc_M_readHead_148 : decode cd_M_readHead 148 = .ok (.bipush 8, 2) := by decide +kernel
theorem dc_M_readHead_150 : decode cd_M_readHead 150 = .ok (.invokevirtual 136, 3) := by decide +kernel
theorem dc_M_readHead_153 : decode cd_M_readHead 153 = .ok (.lconst 0, 1) := by decide +kernel
theorem dc_M_readHead_154 : decode cd_M_readHead 154 = .ok (.lcmp, 1) := by decide +kernel
theorem dc_M_readHead_155 : decode cd_M_readHead 155 = .ok (.ifCond .lt 22, 3) := by decide +kernel
theorem dc_M_readHead_158 : decode cd_M_readHead 158 = .ok (.aload_n 0, 1) := by decide +kernel
theorem dc_M_readHead_159 : decode cd_M_readHead 159 = .ok (.bipush 27, 2) := by decide +kernel
theorem dc_M_readHead_161 : decode cd_M_readHead 161 = .ok (.bipush 8, 2) := by decide +kernel
theorem dc_M_readHead_163 : decode cd_M_readHead 163 = .ok (.invokevirtual 136, 3) := by decide +kernel
theorem dc_M_readHead_166 : decode cd_M_readHead 166 = .ok (.ldc2_w 113, 3) := by decide +kernel
theorem dc_M_readHead_169 : decode cd_M_readHead 169 = .ok (.lcmp, 1) := by decide +kernel
theorem dc_M_readHead_170 : decode cd_M_readHead 170 = .ok (.ifCond .gt 7, 3) := by decide +kernel
theorem dc_M_readHead_173 : decode cd_M_readHead 173 = .ok (.iconst 1, 1) := by decide +kernel
theorem dc_M_readHead_174 : decode cd_M_readHead 174 = .ok (.goto 4, 3) := by decide +kernel
theorem dc_M_readHead_177 : decode cd_M_readHead 177 = .ok (.iconst 0, 1) := by decide +kernel
theorem dc_M_readHead_178 : decode cd_M_readHead 178 = .ok (.bipush 27, 2) := by decide +kernel
theorem dc_M_readHead_180 : decode cd_M_readHead 180 = .ok (.invokevirtual 139, 3) := by decide +kernel
theorem dc_M_readHead_183 : decode cd_M_readHead 183 = .ok (.aload_n 0, 1) := by decide +kernel
theorem dc_M_readHead_184 : decode cd_M_readHead 184 = .ok (.aload_n 0, 1) := by decide +kernel
theorem dc_M_readHead_185 : decode cd_M_readHead 185 = .ok (.bipush 35, 2) := by decide +kernel
theorem dc_M_readHead_187 : decode cd_M_readHead 187 = .ok (.bipush 8, 2) := by decide +kernel
theorem dc_M_readHead_189 : decode cd_M_readHead 189 = .ok (.invokevirtual 136, 3) := by decide +kernel
theorem dc_M_readHead_192 : decode cd_M_readHead 192 = .ok (.lconst 0, 1) := by decide +kernel
theorem dc_M_readHead_193 : decode cd_M_readHead 193 = .ok (.lcmp, 1) := by decide +kernel
theorem dc_M_readHead_194 : decode cd_M_readHead 194 = .ok (.ifCond .lt 22, 3) := by decide +kernel
theorem dc_M_readHead_197 : decode cd_M_readHead 197 = .ok (.aload_n 0, 1) := by decide +kernel
theorem dc_M_readHead_198 : decode cd_M_readHead 198 = .ok (.bipush 35, 2) := by decide +kernel
theorem dc_M_readHead_200 : decode cd_M_readHead 200 = .ok (.bipush 8, 2) := by decide +kernel
theorem dc_M_readHead_202 : decode cd_M_readHead 202 = .ok (.invokevirtual 136, 3) := by decide +kernel
theorem dc_M_readHead_205 : decode cd_M_readHead 205 = .ok (.ldc2_w 113, 3) := by decide +kernel
theorem dc_M_readHead_208 : decode cd_M_readHead 208 = .ok (.lcmp, 1) := by decide +kernel
theorem dc_M_readHead_209 : decode cd_M_readHead 209 = .ok (.ifCond .gt 7, 3) := by decide +kernel
theorem dc_M_readHead_212 : decode cd_M_readHead 212 = .ok (.iconst 1, 1) := by decide +kernel
theorem dc_M_readHead_213 : decode cd_M_readHead 213 = .ok (.goto 4, 3) := by decide +kernel
theorem dc_M_readHead_216 : decode cd_M_readHead 216 = .ok (.iconst 0, 1) := by decide +kernel
theorem dc_M_readHead_217 : decode cd_M_readHead 217 = .ok (.bipush 35, 2) := by decide +kernel
theorem dc_M_readHead_219 : decode cd_M_readHead 219 = .ok (.invokevirtual 139, 3) := by decide +kernel
theorem dc_M_readHead_222 : decode cd_M_readHead 222 = .ok (.iand, 1) := by decide +kernel
theorem dc_M_readHead_223 : decode cd_M_readHead 223 = .ok (.iand, 1) := by decide +kernel
theorem dc_M_readHead_224 : decode cd_M_readHead 224 = .ok (.istore 5, 2) := by decide +kernel
theorem dc_M_readHead_226 : decode cd_M_readHead 226 = .ok (.iload 5, 2) := by decide +kernel
theorem dc_M_readHead_228 : decode cd_M_readHead 228 = .ok (.aload_n 0, 1) := by decide +kernel
theorem dc_M_readHead_229 : decode cd_M_readHead 229 = .ok (.lload_n 3, 1) := by decide +kernel
theorem dc_M_readHead_230 : decode cd_M_readHead 230 = .ok (.ldc2_w 90, 3) := by decide +kernel
theorem dc_M_readHead_233 : decode cd_M_readHead 233 = .ok (.lcmp, 1) := by decide +kernel
theorem dc_M_readHead_234 : decode cd_M_readHead 234 = .ok (.ifCond .lt 15, 3) := by decide +kernel
theorem dc_M_readHead_237 : decode cd_M_readHead 237 = .ok (.lload_n 3, 1) := by decide +kernel
theorem dc_M_readHead_238 : decode cd_M_readHead 238 = .ok (.ldc2_w 113, 3) := by decide +kernel
theorem dc_M_readHead_241 : decode cd_M_readHead 241 = .ok (.lcmp, 1) := by decide +kernel
theorem dc_M_readHead_242 : decode cd_M_readHead 242 = .ok (.ifCond .gt 7, 3) := by decide +kernel
theorem dc_M_readHead_245 : decode cd_M_readHead 245 = .ok (.iconst 1, 1) := by decide +kernel
theorem dc_M_readHead_246 : decode cd_M_readHead 246 = .ok (.goto 4, 3) := by decide +kernel
theorem dc_M_readHead_249 : decode cd_M_readHead 249 = .ok (.iconst 0, 1) := by decide +kernel
theorem dc_M_readHead_250 : decode cd_M_readHead 250 = .ok (.bipush 43, 2) := by decide +kernel
theorem dc_M_readHead_252 : decode cd_M_readHead 252 = .ok (.invokevirtual 139, 3) := by decide +kernel
theorem dc_M_readHead_255 : decode cd_M_readHead 255 = .ok (.iand, 1) := by decide +kernel
theorem dc_M_readHead_256 : decode cd_M_readHead 256 = .ok (.istore 5, 2) := by decide +kernel
theorem dc_M_readHead_258 : decode cd_M_readHead 258 = .ok (.iload 5, 2) := by decide +kernel
theorem dc_M_readHead_260 : decode cd_M_readHead 260 = .ok (.aload_n 0, 1) := by decide +kernel
theorem dc_M_readHead_261 : decode cd_M_readHead 261 = .ok (.lload_n 3, 1) := by decide +kernel
theorem dc_M_readHead_262 : decode cd_M_readHead 262 = .ok (.ldc2_w 90, 3) := by decide +kernel
theorem dc_M_readHead_265 : decode cd_M_readHead 265 = .ok (.lcmp, 1) := by decide +kernel
theorem dc_M_readHead_266 : decode cd_M_readHead 266 = .ok (.ifCond .ne 25, 3) := by decide +kernel
theorem dc_M_readHead_269 : decode cd_M_readHead 269 = .ok (.aload_n 0, 1) := by decide +kernel
theorem dc_M_readHead_270 : decode cd_M_readHead 270 = .ok (.bipush 51, 2) := by decide +kernel
theorem dc_M_readHead_272 : decode cd_M_readHead 272 = .ok (.iconst 2, 1) := by decide +kernel
theorem dc_M_readHead_273 : decode cd_M_readHead 273 = .ok (.invokevirtual 136, 3) := by decide +kernel
theorem dc_M_readHead_276 : decode cd_M_readHead 276 = .ok (.ldc2_w 90, 3) := by decide +kernel
theorem dc_M_readHead_279 : decode cd_M_readHead 279 = .ok (.lcmp, 1) := by decide +kernel
theorem dc_M_readHead_280 : decode cd_M_readHead 280 = .ok (.ifCond .ne 7, 3) := by decide +kernel
theorem dc_M_readHead_283 : decode cd_M_readHead 283 = .ok (.iconst 1, 1) := by decide +kernel
theorem dc_M_readHead_284 : decode cd_M_readHead 284 = .ok (.goto 24, 3) := by decide +kernel
theorem dc_M_readHead_287 : decode cd_M_readHead 287 = .ok (.iconst 0, 1) := by decide +kernel
theorem dc_M_readHead_288 : decode cd_M_readHead 288 = .ok (.goto 20, 3) := by decide +kernel
theorem dc_M_readHead_291 : decode cd_M_readHead 291 = .ok (.aload_n 0, 1) := by decide +kernel
theorem dc_M_readHead_292 : decode cd_M_readHead 292 = .ok (.bipush 51, 2) := by decide +kernel
theorem dc_M_readHead_294 : decode cd_M_readHead 294 = .ok (.iconst 2, 1) := by decide +kernel
theorem dc_M_readHead_295 : decode cd_M_readHead 295 = .ok (.invokevirtual 136, 3) := by decide +kernel
theorem dc_M_readHead_298 : decode cd_M_readHead 298 = .ok (.lconst 0, 1) := by decide +kernel
theorem dc_M_readHead_299 : decode cd_M_readHead 299 = .ok (.lcmp, 1) := by decide +kernel
theorem dc_M_readHead_300 : decode cd_M_readHead 300 = .ok (.ifCond .lt 7, 3) := by decide +kernel
theorem dc_M_readHead_303 : decode cd_M_readHead 303 = .ok (.iconst 1, 1) := by decide +kernel
theorem dc_M_readHead_304 : decode cd_M_readHead 304 = .ok (.goto 4, 3) := by decide +kernel
theorem dc_M_readHead_307 : decode cd_M_readHead 307 = .ok (.iconst 0, 1) := by decide +kernel
theorem dc_M_readHead_308 : decode cd_M_readHead 308 = .ok (.bipush 51, 2) := by decide +kernel
theorem dc_M_readHead_310 : decode cd_M_readHead 310 = .ok (.invokevirtual 139, 3) := by decide +kernel
theorem dc_M_readHead_313 : decode cd_M_readHead 313 = .ok (.iand, 1) := by decide +kernel
theorem dc_M_readHead_314 : decode cd_M_readHead 314 = .ok (.istore 5, 2) := by decide +kernel
theorem dc_M_readHead_316 : decode cd_M_readHead 316 = .ok (.iload 5, 2) := by decide +kernel
theorem dc_M_readHead_318 : decode cd_M_readHead 318 = .ok (.aload_n 0, 1) := by decide +kernel
theorem dc_M_readHead_319 : decode cd_M_readHead 319 = .ok (.lload_n 3, 1) := by decide +kernel
theorem dc_M_readHead_320 : decode cd_M_readHead 320 = .ok (.ldc2_w 90, 3) := by decide +kernel
theorem dc_M_readHead_323 : decode cd_M_readHead 323 = .ok (.lcmp, 1) := by decide +kernel
theorem dc_M_readHead_324 : decode cd_M_readHead 324 = .ok (.ifCond .ne 25, 3) := by decide +kernel
theorem dc_M_readHead_327 : decode cd_M_readHead 327 = .ok (.aload_n 0, 1) := by decide +kernel
theorem dc_M_readHead_328 : decode cd_M_readHead 328 = .ok (.bipush 53, 2) := by decide +kernel
theorem dc_M_readHead_330 : decode cd_M_readHead 330 = .ok (.iconst 4, 1) := by decide +kernel
theorem dc_M_readHead_331 : decode cd_M_readHead 331 = .ok (.invokevirtual 136, 3) := by decide +kernel
theorem dc_M_readHead_334 : decode cd_M_readHead 334 = .ok (.ldc2_w 90, 3) := by decide +kernel
theorem dc_M_readHead_337 : decode cd_M_readHead 337 = .ok (.lcmp, 1) := by decide +kernel
theorem dc_M_readHead_338 : decode cd_M_readHead 338 = .ok (.ifCond .ne 7, 3) := by decide +kernel
theorem dc_M_readHead_341 : decode cd_M_readHead 341 = .ok (.iconst 1, 1) := by decide +kernel
theorem dc_M_readHead_342 : decode cd_M_readHead 342 = .ok (.goto 24, 3) := by decide +kernel
theorem dc_M_readHead_345 : decode cd_M_readHead 345 = .ok (.iconst 0, 1) := by decide +kernel
theorem dc_M_readHead_346 : decode cd_M_readHead 346 = .ok (.goto 20, 3) := by decide +kernel
theorem dc_M_readHead_349 : decode cd_M_readHead 349 = .ok (.aload_n 0, 1) := by decide +kernel
theorem dc_M_readHead_350 : decode cd_M_readHead 350 = .ok (.bipush 53, 2) := by decide +kernel
theorem dc_M_readHead_352 : decode cd_M_readHead 352 = .ok (.iconst 4, 1) := by decide +kernel
theorem dc_M_readHead_353 : decode cd_M_readHead 353 = .ok (.invokevirtual 136, 3) := by decide +kernel
theorem dc_M_readHead_356 : decode cd_M_readHead 356 = .ok (.lconst 0, 1) := by decide +kernel
theorem dc_M_readHead_357 : decode cd_M_readHead 357 = .ok (.lcmp, 1) := by decide +kernel
theorem dc_M_readHead_358 : decode cd_M_readHead 358 = .ok (.ifCond .lt 7, 3) := by decide +kernel
theorem dc_M_readHead_361 : decode cd_M_readHead 361 = .ok (.iconst 1, 1) := by decide +kernel
theorem dc_M_readHead_362 : decode cd_M_readHead 362 = .ok (.goto 4, 3) := by decide +kernel
theorem dc_M_readHead_365 : decode cd_M_readHead 365 = .ok (.iconst 0, 1) := by decide +kernel
theorem dc_M_readHead_366 : decode cd_M_readHead 366 = .ok (.bipush 53, 2) := by decide +kernel
theorem dc_M_readHead_368 : decode cd_M_readHead 368 = .ok (.invokevirtual 139, 3) := by decide +kernel
theorem dc_M_readHead_371 : decode cd_M_readHead 371 = .ok (.iand, 1) := by decide +kernel
theorem dc_M_readHead_372 : decode cd_M_readHead 372 = .ok (.istore 5, 2) := by decide +kernel
theorem dc_M_readHead_374 : decode cd_M_readHead 374 = .ok (.iload 5, 2) := by decide +kernel
theorem dc_M_readHead_376 : decode cd_M_readHead 376 = .ok (.aload_n 0, 1) := by decide +kernel
theorem dc_M_readHead_377 : decode cd_M_readHead 377 = .ok (.lload_n 1, 1) := by decide +kernel
theorem dc_M_readHead_378 : decode cd_M_readHead 378 = .ok (.lconst 1, 1) := by decide +kernel
theorem dc_M_readHead_379 : decode cd_M_readHead 379 = .ok (.lcmp, 1) := by decide +kernel
theorem dc_M_readHead_380 : decode cd_M_readHead 380 = .ok (.ifCond .lt 15, 3) := by decide +kernel
theorem dc_M_readHead_383 : decode cd_M_readHead 383 = .ok (.lload_n 1, 1) := by decide +kernel
theorem dc_M_readHead_384 : decode cd_M_readHead 384 = .ok (.ldc2_w 143, 3) := by decide +kernel
theorem dc_M_readHead_387 : decode cd_M_readHead 387 = .ok (.lcmp, 1) := by decide +kernel
theorem dc_M_readHead_388 : decode cd_M_readHead 388 = .ok (.ifCond .gt 7, 3) := by decide +kernel
theorem dc_M_readHead_391 : decode cd_M_readHead 391 = .ok (.iconst 1, 1) := by decide +kernel
theorem dc_M_readHead_392 : decode cd_M_readHead 392 = .ok (.goto 4, 3) := by decide +kernel
theorem dc_M_readHead_395 : decode cd_M_readHead 395 = .ok (.iconst 0, 1) := by decide +kernel
theorem dc_M_readHead_396 : decode cd_M_readHead 396 = .ok (.bipush 57, 2) := by decide +kernel
theorem dc_M_readHead_398 : decode cd_M_readHead 398 = .ok (.invokevirtual 139, 3) := by decide +kernel
theorem dc_M_readHead_401 : decode cd_M_readHead 401 = .ok (.iand, 1) := by decide +kernel
theorem dc_M_readHead_402 : decode cd_M_readHead 402 = .ok (.istore 5, 2) := by decide +kernel
theorem dc_M_readHead_404 : decode cd_M_readHead 404 = .ok (.iload 5, 2) := by decide +kernel
theorem dc_M_readHead_406 : decode cd_M_readHead 406 = .ok (.ifCond .eq 37, 3) := by decide +kernel
theorem dc_M_readHead_409 : decode cd_M_readHead 409 = .ok (.aload_n 0, 1) := by decide +kernel
theorem dc_M_readHead_410 : decode cd_M_readHead 410 = .ok (.bipush 17, 2) := by decide +kernel
theorem dc_M_readHead_412 : decode cd_M_readHead 412 = .ok (.ldc2_w 145, 3) := by decide +kernel
theorem dc_M_readHead_415 : decode cd_M_readHead 415 = .ok (.invokevirtual 147, 3) := by decide +kernel
theorem dc_M_readHead_418 : decode cd_M_readHead 418 = .ok (.aload_n 0, 1) := by decide +kernel
theorem dc_M_readHead_419 : decode cd_M_readHead 419 = .ok (.bipush 21, 2) := by decide +kernel
theorem dc_M_readHead_421 : decode cd_M_readHead 421 = .ok (.aload_n 0, 1) := by decide +kernel
theorem dc_M_readHead_422 : decode cd_M_readHead 422 = .ok (.getfield 33, 3) := by decide +kernel
theorem dc_M_readHead_425 : decode cd_M_readHead 425 = .ok (.invokevirtual 48, 3) := by decide +kernel
theorem dc_M_readHead_428 : decode cd_M_readHead 428 = .ok (.lcmp, 1) := by decide +kernel
theorem dc_M_readHead_429 : decode cd_M_readHead 429 = .ok (.ifCond .eq 14, 3) := by decide +kernel
theorem dc_M_readHead_432 : decode cd_M_readHead 432 = .ok (.aload_n 0, 1) := by decide +kernel
theorem dc_M_readHead_433 : decode cd_M_readHead 433 = .ok (.iconst 3, 1) := by decide +kernel
theorem dc_M_readHead_434 : decode cd_M_readHead 434 = .ok (.putfield 130, 3) := by decide +kernel
theorem dc_M_readHead_437 : decode cd_M_readHead 437 = .ok (.aload_n 0, 1) := by decide +kernel
theorem dc_M_readHead_438 : decode cd_M_readHead 438 = .ok (.bipush 17, 2) := by decide +kernel
theorem dc_M_readHead_440 : decode cd_M_readHead 440 = .ok (.putfield 133, 3) := by decide +kernel
theorem dc_M_readHead_443 : decode cd_M_readHead 443 = .ok (.return_, 1) := by decide +kernel
theorem dc_M_field_0 : decode cd_M_field 0 = .ok (.aload_n 0, 1) := by decide +kernel
theorem dc_M_field_1 : decode cd_M_field 1 = .ok (.getfield 130, 3) := by decide +kernel
theorem dc_M_field_4 : decode cd_M_field 4 = .ok (.ifCond .ne 17, 3) := by decide +kernel
theorem dc_M_field_7 : decode cd_M_field 7 = .ok (.iload_n 1, 1) := by decide +kernel
theorem dc_M_field_8 : decode cd_M_field 8 = .ok (.ifCond .ne 13, 3) := by decide +kernel
theorem dc_M_field_11 : decode cd_M_field 11 = .ok (.aload_n 0, 1) := by decide +kernel
theorem dc_M_field_12 : decode cd_M_field 12 = .ok (.iconst 2, 1) := by decide +kernel
theorem dc_M_field_13 : decode cd_M_field 13 = .ok (.putfield 130, 3) := by decide +kernel
theorem dc_M_field_16 : decode cd_M_field 16 = .ok (.aload_n 0, 1) := by decide +kernel
theorem dc_M_field_17 : decode cd_M_field 17 = .ok (.iload_n 2, 1) := by decide +kernel
theorem dc_M_field_18 : decode cd_M_field 18 = .ok (.putfield 133, 3) := by decide +kernel
theorem dc_M_field_21 : decode cd_M_field 21 = .ok (.iload_n 1, 1) := by decide +kernel
theorem dc_M_field_22 : decode cd_M_field 22 = .ok (.ireturn, 1) := by decide +kernel
theorem dc_M_start_0 : decode cd_M_start 0 = .ok (.lconst 0, 1) := by decide +kernel
theorem dc_M_start_1 : decode cd_M_start 1 = .ok (.lstore 4, 2) := by decide +kernel
theorem dc_M_start_3 : decode cd_M_start 3 = .ok (.iconst 0, 1) := by decide +kernel
theorem dc_M_start_4 : decode cd_M_start 4 = .ok (.istore 6, 2) := by decide +kernel
theorem dc_M_start_6 : decode cd_M_start 6 = .ok (.iload 6, 2) := by decide +kernel
theorem dc_M_start_8 : decode cd_M_start 8 = .ok (.i2l, 1) := by decide +kernel
theorem dc_M_start_9 : decode cd_M_start 9 = .ok (.lload_n 2, 1) := by decide +kernel
theorem dc_M_start_10 : decode cd_M_start 10 = .ok (.lcmp, 1) := by decide +kernel
theorem dc_M_start_11 : decode cd_M_start 11 = .ok (.ifCond .ge 34, 3) := by decide +kernel
theorem dc_M_start_14 : decode cd_M_start 14 = .ok (.iload 6, 2) := by decide +kernel
theorem dc_M_start_16 : decode cd_M_start 16 = .ok (.bipush 8, 2) := by decide +kernel
theorem dc_M_start_18 : decode cd_M_start 18 = .ok (.if_icmp .ge 27, 3) := by decide +kernel
theorem dc_M_start_21 : decode cd_M_start 21 = .ok (.lload 4, 2) := by decide +kernel
theorem dc_M_start_23 : decode cd_M_start 23 = .ok (.bipush 8, 2) := by decide +kernel
theorem dc_M_start_25 : decode cd_M_start 25 = .ok (.lshl, 1) := by decide +kernel
theorem dc_M_start_26 : decode cd_M_start 26 = .ok (.aload_n 0, 1) := by decide +kernel
theorem dc_M_start_27 : decode cd_M_start 27 = .ok (.getfield 7, 3) := by decide +kernel
theorem dc_M_start_30 : decode cd_M_start 30 = .ok (.iload_n 1, 1) := by decide +kernel
theorem dc_M_start_31 : decode cd_M_start 31 = .ok (.iload 6, 2) := by decide +kernel
theorem dc_M_start_33 : decode cd_M_start 33 = .ok (.iadd, 1) := by decide +kernel
theorem dc_M_start_34 : decode cd_M_start 34 = .ok (.iaload, 1) := by decide +kernel
theorem dc_M_start_35 : decode cd_M_start 35 = .ok (.i2l, 1) := by decide +kernel
theorem dc_M_start_36 : decode cd_M_start 36 = .ok (.lor, 1) := by decide +kernel
theorem dc_M_start_37 : decode cd_M_start 37 = .ok (.lstore 4, 2) := by decide +kernel
theorem dc_M_start_39 : decode cd_M_start 39 = .ok (.iinc 6 1, 3) := by decide +kernel
theorem dc_M_start_42 : decode cd_M_start 42 = .ok (.goto (-36), 3) := by decide +kernel
theorem dc_M_start_45 : decode cd_M_start 45 = .ok (.lload 4, 2) := by decide +kernel
theorem dc_M_start_47 : decode cd_M_start 47 = .ok (.lreturn, 1) := by decide +kernel
theorem dc_M_readRecord_0 : decode cd_M_readRecord 0 = .ok (.aload_n 0, 1) := by decide +kernel
theorem dc_M_readRecord_1 : decode cd_M_readRecord 1 = .ok (.aload_n 0, 1) := by decide +kernel
theorem dc_M_readRecord_2 : decode cd_M_readRecord 2 = .ok (.getfield 96, 3) := by decide +kernel
theorem dc_M_readRecord_5 : decode cd_M_readRecord 5 = .ok (.putfield 103, 3) := by decide +kernel
theorem dc_M_readRecord_8 : decode cd_M_readRecord 8 = .ok (.aload_n 0, 1) := by decide +kernel
theorem dc_M_readRecord_9 : decode cd_M_readRecord 9 = .ok (.iconst 1, 1) := by decide +kernel
theorem dc_M_readRecord_10 : decode cd_M_readRecord 10 = .ok (.putfield 92, 3) := by decide +kernel
theorem dc_M_readRecord_13 : decode cd_M_readRecord 13 = .ok (.aload_n 0, 1) := by decide +kernel
theorem dc_M_readRecord_14 : decode cd_M_readRecord 14 = .ok (.invokevirtual 99, 3) := by decide +kernel
theorem dc_M_readRecord_17 : decode cd_M_readRecord 17 = .ok (.lstore 4, 2) := by decide +kernel
theorem dc_M_readRecord_19 : decode cd_M_readRecord 19 = .ok (.aload_n 0, 1) := by decide +kernel
theorem dc_M_readRecord_20 : decode cd_M_readRecord 20 = .ok (.aload_n 0, 1) := by decide +kernel
theorem dc_M_readRecord_21 : decode cd_M_readRecord 21 = .ok (.getfield 92, 3) := by decide +kernel
theorem dc_M_readRecord_24 : decode cd_M_readRecord 24 = .ok (.ifCond .eq 30, 3) := by decide +kernel
theorem dc_M_readRecord_27 : decode cd_M_readRecord 27 = .ok (.lload 4, 2) := by decide +kernel
theorem dc_M_readRecord_29 : decode cd_M_readRecord 29 = .ok (.lconst 0, 1) := by decide +kernel
theorem dc_M_readRecord_30 : decode cd_M_readRecord 30 = .ok (.lcmp, 1) := by decide +kernel
theorem dc_M_readRecord_31 : decode cd_M_readRecord 31 = .ok (.ifCond .lt 23, 3) := by decide +kernel
theorem dc_M_readRecord_34 : decode cd_M_readRecord 34 = .ok (.lload 4, 2) := by decide +kernel
theorem dc_M_readRecord_36 : decode cd_M_readRecord 36 = .ok (.aload_n 0, 1) := by decide +kernel
theorem dc_M_readRecord_37 : decode cd_M_readRecord 37 = .ok (.getfield 33, 3) := by decide +kernel
theorem dc_M_readRecord_40 : decode cd_M_readRecord 40 = .ok (.aload_n 0, 1) := by decide +kernel
theorem dc_M_readRecord_41 : decode cd_M_readRecord 41 = .ok (.getfield 96, 3) := by decide +kernel
theorem dc_M_readRecord_44 : decode cd_M_readRecord 44 = .ok (.isub, 1) := by decide +kernel
theorem dc_M_readRecord_45 : decode cd_M_readRecord 45 = .ok (.i2l, 1) := by decide +kernel
theorem dc_M_readRecord_46 : decode cd_M_readRecord 46 = .ok (.lcmp, 1) := by decide +kernel
theorem dc_M_readRecord_47 : decode cd_M_readRecord 47 = .ok (.ifCond .gt 7, 3) := by decide +kernel
theorem dc_M_readRecord_50 : decode cd_M_readRecord 50 = .ok (.iconst 1, 1) := by decide +kernel
theorem dc_M_readRecord_51 : decode cd_M_readRecord 51 = .ok (.goto 4, 3) := by decide +kernel
theorem dc_M_readRecord_54 : decode cd_M_readRecord 54 = .ok (.iconst 0, 1) := by decide +kernel
theorem dc_M_readRecord_55 : decode cd_M_readRecord 55 = .ok (.putfield 92, 3) := by decide +kernel
theorem dc_M_readRecord_58 : decode cd_M_readRecord 58 = .ok (.aload_n 0, 1) := by decide +kernel
theorem dc_M_readRecord_59 : decode cd_M_readRecord 59 = .ok (.getfield 92, 3) := by decide +kernel
theorem dc_M_readRecord_62 : decode cd_M_readRecord 62 = .ok (.ifCond .ne 5, 3) := by decide +kernel
theorem dc_M_readRecord_65 : decode cd_M_readRecord 65 = .ok (.iconst 0, 1) := by decide +kernel
theorem dc_M_readRecord_66 : decode cd_M_readRecord 66 = .ok (.ireturn, 1) := by decide +kernel
theorem dc_M_readRecord_67 : decode cd_M_readRecord 67 = .ok (.aload_n 0, 1) := by decide +kernel
theorem dc_M_readRecord_68 : decode cd_M_readRecord 68 = .ok (.getfield 96, 3) := by decide +kernel
theorem dc_M_readRecord_71 : decode cd_M_readRecord 71 = .ok (.lload 4, 2) := by decide +kernel
theorem dc_M_readRecord_73 : decode cd_M_readRecord 73 = .ok (.l2i, 1) := by decide +kernel
theorem dc_M_readRecord_74 : decode cd_M_readRecord 74 = .ok (.iadd, 1) := by decide +kernel
theorem dc_M_readRecord_75 : decode cd_M_readRecord 75 = .ok (.istore 6, 2) := by decide +kernel
theorem dc_M_readRecord_77 : decode cd_M_readRecord 77 = .ok (.aload_n 0, 1) := by decide +kernel
theorem dc_M_readRecord_78 : decode cd_M_readRecord 78 = .ok (.invokevirtual 106, 3) := by decide +kernel
theorem dc_M_readRecord_81 : decode cd_M_readRecord 81 = .ok (.aload_n 0, 1) := by decide +kernel
theorem dc_M_readRecord_82 : decode cd_M_readRecord 82 = .ok (.invokevirtual 99, 3) := by decide +kernel
theorem dc_M_readRecord_85 : decode cd_M_readRecord 85 = .ok (.lstore 7, 2) := by decide +kernel
theorem dc_M_readRecord_87 : decode cd_M_readRecord 87 = .ok (.aload_n 0, 1) := by decide +kernel
theorem dc_M_readRecord_88 : decode cd_M_readRecord 88 = .ok (.lload_n 2, 1) := by decide +kernel
theorem dc_M_readRecord_89 : decode cd_M_readRecord 89 = .ok (.lload 7, 2) := by decide +kernel
theorem dc_M_readRecord_91 : decode cd_M_readRecord 91 = .ok (.ladd, 1) := by decide +kernel
theorem dc_M_readRecord_92 : decode cd_M_readRecord 92 = .ok (.putfield 109, 3) := by decide +kernel
theorem dc_M_readRecord_95 : decode cd_M_readRecord 95 = .ok (.aload_n 0, 1) := by decide +kernel
theorem dc_M_readRecord_96 : decode cd_M_readRecord 96 = .ok (.aload_n 0, 1) := by decide +kernel
theorem dc_M_readRecord_97 : decode cd_M_readRecord 97 = .ok (.getfield 92, 3) := by decide +kernel
theorem dc_M_readRecord_100 : decode cd_M_readRecord 100 = .ok (.ifCond .eq 27, 3) := by decide +kernel
theorem dc_M_readRecord_103 : decode cd_M_readRecord 103 = .ok (.aload_n 0, 1) := by decide +kernel
theorem dc_M_readRecord_104 : decode cd_M_readRecord 104 = .ok (.getfield 109, 3) := by decide +kernel
theorem dc_M_readRecord_107 : decode cd_M_readRecord 107 = .ok (.lconst 0, 1) := by decide +kernel
theorem dc_M_readRecord_108 : decode cd_M_readRecord 108 = .ok (.lcmp, 1) := by decide +kernel
theorem dc_M_readRecord_109 : decode cd_M_readRecord 109 = .ok (.ifCond .lt 18, 3) := by decide +kernel
theorem dc_M_readRecord_112 : decode cd_M_readRecord 112 = .ok (.aload_n 0, 1) := by decide +kernel
theorem dc_M_readRecord_113 : decode cd_M_readRecord 113 = .ok (.getfield 109, 3) := by decide +kernel
theorem dc_M_readRecord_116 : decode cd_M_readRecord 116 = .ok (.ldc2_w 113, 3) := by decide +kernel
theorem dc_M_readRecord_119 : decode cd_M_readRecord 119 = .ok (.lcmp, 1) := by decide +kernel
theorem dc_M_readRecord_120 : decode cd_M_readRecord 120 = .ok (.ifCond .gt 7, 3) := by decide +kernel
theorem dc_M_readRecord_123 : decode cd_M_readRecord 123 = .ok (.iconst 1, 1) := by decide +kernel
theorem dc_M_readRecord_124 : decode cd_M_readRecord 124 = .ok (.goto 4, 3) := by decide +kernel
theorem dc_M_readRecord_127 : decode cd_M_readRecord 127 = .ok (.iconst 0, 1) := by decide +kernel
theorem dc_M_readRecord_128 : decode cd_M_readRecord 128 = .ok (.putfield 92, 3) := by decide +kernel
theorem dc_M_readRecord_131 : decode cd_M_readRecord 131 = .ok (.aload_n 0, 1) := by decide +kernel
theorem dc_M_readRecord_132 : decode cd_M_readRecord 132 = .ok (.aload_n 0, 1) := by decide +kernel
theorem dc_M_readRecord_133 : decode cd_M_readRecord 133 = .ok (.invokevirtual 99, 3) := by decide +kernel
theorem dc_M_readRecord_136 : decode cd_M_readRecord 136 = .ok (.iload_n 1, 1) := by decide +kernel
theorem dc_M_readRecord_137 : decode cd_M_readRecord 137 = .ok (.i2l, 1) := by decide +kernel
theorem dc_M_readRecord_138 : decode cd_M_readRecord 138 = .ok (.lcmp, 1) := by decide +kernel
theorem dc_M_readRecord_139 : decode cd_M_readRecord 139 = .ok (.ifCond .ne 14, 3) := by decide +kernel
theorem dc_M_readRecord_142 : decode cd_M_readRecord 142 = .ok (.aload_n 0, 1) := by decide +kernel
theorem dc_M_readRecord_143 : decode cd_M_readRecord 143 = .ok (.getfield 92, 3) := by decide +kernel
theorem dc_M_readRecord_146 : decode cd_M_readRecord 146 = .ok (.ifCond .eq 7, 3) := by decide +kernel
theorem dc_M_readRecord_149 : decode cd_M_readRecord 149 = .ok (.iconst 1, 1) := by decide +kernel
theorem dc_M_readRecord_150 : decode cd_M_readRecord 150 = .ok (.goto 4, 3) := by decide +kernel
theorem dc_M_readRecord_153 : decode cd_M_readRecord 153 = .ok (.iconst 0, 1) := by decide +kernel
theorem dc_M_readRecord_154 : decode cd_M_readRecord 154 = .ok (.putfield 92, 3) := by decide +kernel
theorem dc_M_readRecord_157 : decode cd_M_readRecord 157 = .ok (.aload_n 0, 1) := by decide +kernel
theorem dc_M_readRecord_158 : decode cd_M_readRecord 158 = .ok (.aload_n 0, 1) := by decide +kernel
theorem dc_M_readRecord_159 : decode cd_M_readRecord 159 = .ok (.invokevirtual 115, 3) := by decide +kernel
theorem dc_M_readRecord_162 : decode cd_M_readRecord 162 = .ok (.putfield 118, 3) := by decide +kernel
theorem dc_M_readRecord_165 : decode cd_M_readRecord 165 = .ok (.aload_n 0, 1) := by decide +kernel
theorem dc_M_readRecord_166 : decode cd_M_readRecord 166 = .ok (.aload_n 0, 1) := by decide +kernel
theorem dc_M_readRecord_167 : decode cd_M_readRecord 167 = .ok (.getfield 96, 3) := by decide +kernel
theorem dc_M_readRecord_170 : decode cd_M_readRecord 170 = .ok (.aload_n 0, 1) := by decide +kernel
theorem dc_M_readRecord_171 : decode cd_M_readRecord 171 = .ok (.getfield 118, 3) := by decide +kernel
theorem dc_M_readRecord_174 : decode cd_M_readRecord 174 = .ok (.lconst 0, 1) := by decide +kernel
theorem dc_M_readRecord_175 : decode cd_M_readRecord 175 = .ok (.lcmp, 1) := by decide +kernel
theorem dc_M_readRecord_176 : decode cd_M_readRecord 176 = .ok (.ifCond .le 18, 3) := by decide +kernel
theorem dc_M_readRecord_179 : decode cd_M_readRecord 179 = .ok (.aload_n 0, 1) := by decide +kernel
theorem dc_M_readRecord_180 : decode cd_M_readRecord 180 = .ok (.getfield 92, 3) := by decide +kernel
theorem dc_M_readRecord_183 : decode cd_M_readRecord 183 = .ok (.ifCond .eq 11, 3) := by decide +kernel
theorem dc_M_readRecord_186 : decode cd_M_readRecord 186 = .ok (.aload_n 0, 1) := by decide +kernel
theorem dc_M_readRecord_187 : decode cd_M_readRecord 187 = .ok (.getfield 118, 3) := by decide +kernel
theorem dc_M_readRecord_190 : decode cd_M_readRecord 190 = .ok (.l2i, 1) := by decide +kernel
theorem dc_M_readRecord_191 : decode cd_M_readRecord 191 = .ok (.goto 4, 3) := by decide +kernel
theorem dc_M_readRecord_194 : decode cd_M_readRecord 194 = .ok (.iconst 0, 1) := by decide +kernel
theorem dc_M_readRecord_195 : decode cd_M_readRecord 195 = .ok (.isub, 1) := by decide +kernel
theorem dc_M_readRecord_196 : decode cd_M_readRecord 196 = .ok (.putfield 121, 3) := by decide +kernel
theorem dc_M_readRecord_199 : decode cd_M_readRecord 199 = .ok (.aload_n 0, 1) := by decide +kernel
theorem dc_M_readRecord_200 : decode cd_M_readRecord 200 = .ok (.aload_n 0, 1) := by decide +kernel
theorem dc_M_readRecord_201 : decode cd_M_readRecord 201 = .ok (.invokevirtual 115, 3) := by decide +kernel
theorem dc_M_readRecord_204 : decode cd_M_readRecord 204 = .ok (.putfield 124, 3) := by decide +kernel
theorem dc_M_readRecord_207 : decode cd_M_readRecord 207 = .ok (.aload_n 0, 1) := by decide +kernel
theorem dc_M_readRecord_208 : decode cd_M_readRecord 208 = .ok (.aload_n 0, 1) := by decide +kernel
theorem dc_M_readRecord_209 : decode cd_M_readRecord 209 = .ok (.getfield 96, 3) := by decide +kernel
theorem dc_M_readRecord_212 : decode cd_M_readRecord 212 = .ok (.aload_n 0, 1) := by decide +kernel
theorem dc_M_readRecord_213 : decode cd_M_readRecord 213 = .ok (.getfield 124, 3) := by decide +kernel
theorem dc_M_readRecord_216 : decode cd_M_readRecord 216 = .ok (.lconst 0, 1) := by decide +kernel
