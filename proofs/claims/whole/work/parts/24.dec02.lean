theorem dc_B_judge_91 : decode cd_B_judge 91 = .ok (.aload_n 0, 1) := by decide +kernel
theorem dc_B_judge_92 : decode cd_B_judge 92 = .ok (.getfield 10, 3) := by decide +kernel
theorem dc_B_judge_95 : decode cd_B_judge 95 = .ok (.bipush 21, 2) := by decide +kernel
theorem dc_B_judge_97 : decode cd_B_judge 97 = .ok (.invokevirtual 186, 3) := by decide +kernel
theorem dc_B_judge_100 : decode cd_B_judge 100 = .ok (.i2l, 1) := by decide +kernel
theorem dc_B_judge_101 : decode cd_B_judge 101 = .ok (.lcmp, 1) := by decide +kernel
theorem dc_B_judge_102 : decode cd_B_judge 102 = .ok (.ifCond .eq 11, 3) := by decide +kernel
theorem dc_B_judge_105 : decode cd_B_judge 105 = .ok (.aload_n 0, 1) := by decide +kernel
theorem dc_B_judge_106 : decode cd_B_judge 106 = .ok (.iconst 3, 1) := by decide +kernel
theorem dc_B_judge_107 : decode cd_B_judge 107 = .ok (.bipush 17, 2) := by decide +kernel
theorem dc_B_judge_109 : decode cd_B_judge 109 = .ok (.invokevirtual 179, 3) := by decide +kernel
theorem dc_B_judge_112 : decode cd_B_judge 112 = .ok (.return_, 1) := by decide +kernel
theorem dc_B_judge_113 : decode cd_B_judge 113 = .ok (.aload_n 0, 1) := by decide +kernel
theorem dc_B_judge_114 : decode cd_B_judge 114 = .ok (.invokevirtual 189, 3) := by decide +kernel
theorem dc_B_judge_117 : decode cd_B_judge 117 = .ok (.return_, 1) := by decide +kernel
theorem dc_T_signed_0 : decode cd_T_signed 0 = .ok (.bipush 64, 2) := by decide +kernel
theorem dc_T_signed_2 : decode cd_T_signed 2 = .ok (.bipush 8, 2) := by decide +kernel
theorem dc_T_signed_4 : decode cd_T_signed 4 = .ok (.iload_n 2, 1) := by decide +kernel
theorem dc_T_signed_5 : decode cd_T_signed 5 = .ok (.imul, 1) := by decide +kernel
theorem dc_T_signed_6 : decode cd_T_signed 6 = .ok (.isub, 1) := by decide +kernel
theorem dc_T_signed_7 : decode cd_T_signed 7 = .ok (.istore_n 3, 1) := by decide +kernel
theorem dc_T_signed_8 : decode cd_T_signed 8 = .ok (.aload_n 0, 1) := by decide +kernel
theorem dc_T_signed_9 : decode cd_T_signed 9 = .ok (.iload_n 1, 1) := by decide +kernel
theorem dc_T_signed_10 : decode cd_T_signed 10 = .ok (.iload_n 2, 1) := by decide +kernel
theorem dc_T_signed_11 : decode cd_T_signed 11 = .ok (.invokevirtual 59, 3) := by decide +kernel
theorem dc_T_signed_14 : decode cd_T_signed 14 = .ok (.iload_n 3, 1) := by decide +kernel
theorem dc_T_signed_15 : decode cd_T_signed 15 = .ok (.lshl, 1) := by decide +kernel
theorem dc_T_signed_16 : decode cd_T_signed 16 = .ok (.iload_n 3, 1) := by decide +kernel
theorem dc_T_signed_17 : decode cd_T_signed 17 = .ok (.lshr, 1) := by decide +kernel
theorem dc_T_signed_18 : decode cd_T_signed 18 = .ok (.lreturn, 1) := by decide +kernel
theorem dc_T_unsigned_0 : decode cd_T_unsigned 0 = .ok (.lconst 0, 1) := by decide +kernel
theorem dc_T_unsigned_1 : decode cd_T_unsigned 1 = .ok (.lstore_n 3, 1) := by decide +kernel
theorem dc_T_unsigned_2 : decode cd_T_unsigned 2 = .ok (.iconst 0, 1) := by decide +kernel
theorem dc_T_unsigned_3 : decode cd_T_unsigned 3 = .ok (.istore 5, 2) := by decide +kernel
theorem dc_T_unsigned_5 : decode cd_T_unsigned 5 = .ok (.iload 5, 2) := by decide +kernel
theorem dc_T_unsigned_7 : decode cd_T_unsigned 7 = .ok (.iload_n 2, 1) := by decide +kernel
theorem dc_T_unsigned_8 : decode cd_T_unsigned 8 = .ok (.if_icmp .ge 24, 3) := by decide +kernel
theorem dc_T_unsigned_11 : decode cd_T_unsigned 11 = .ok (.lload_n 3, 1) := by decide +kernel
theorem dc_T_unsigned_12 : decode cd_T_unsigned 12 = .ok (.bipush 8, 2) := by decide +kernel
theorem dc_T_unsigned_14 : decode cd_T_unsigned 14 = .ok (.lshl, 1) := by decide +kernel
theorem dc_T_unsigned_15 : decode cd_T_unsigned 15 = .ok (.aload_n 0, 1) := by decide +kernel
theorem dc_T_unsigned_16 : decode cd_T_unsigned 16 = .ok (.iload_n 1, 1) := by decide +kernel
theorem dc_T_unsigned_17 : decode cd_T_unsigned 17 = .ok (.iload 5, 2) := by decide +kernel
theorem dc_T_unsigned_19 : decode cd_T_unsigned 19 = .ok (.iadd, 1) := by decide +kernel
theorem dc_T_unsigned_20 : decode cd_T_unsigned 20 = .ok (.invokevirtual 55, 3) := by decide +kernel
theorem dc_T_unsigned_23 : decode cd_T_unsigned 23 = .ok (.i2l, 1) := by decide +kernel
theorem dc_T_unsigned_24 : decode cd_T_unsigned 24 = .ok (.lor, 1) := by decide +kernel
theorem dc_T_unsigned_25 : decode cd_T_unsigned 25 = .ok (.lstore_n 3, 1) := by decide +kernel
theorem dc_T_unsigned_26 : decode cd_T_unsigned 26 = .ok (.iinc 5 1, 3) := by decide +kernel
theorem dc_T_unsigned_29 : decode cd_T_unsigned 29 = .ok (.goto (-24), 3) := by decide +kernel
theorem dc_T_unsigned_32 : decode cd_T_unsigned 32 = .ok (.lload_n 3, 1) := by decide +kernel
theorem dc_T_unsigned_33 : decode cd_T_unsigned 33 = .ok (.lreturn, 1) := by decide +kernel
theorem dc_B_keepFault_0 : decode cd_B_keepFault 0 = .ok (.aload_n 0, 1) := by decide +kernel
theorem dc_B_keepFault_1 : decode cd_B_keepFault 1 = .ok (.iload_n 1, 1) := by decide +kernel
theorem dc_B_keepFault_2 : decode cd_B_keepFault 2 = .ok (.putfield 32, 3) := by decide +kernel
theorem dc_B_keepFault_5 : decode cd_B_keepFault 5 = .ok (.aload_n 0, 1) := by decide +kernel
theorem dc_B_keepFault_6 : decode cd_B_keepFault 6 = .ok (.iload_n 2, 1) := by decide +kernel
theorem dc_B_keepFault_7 : decode cd_B_keepFault 7 = .ok (.putfield 36, 3) := by decide +kernel
theorem dc_B_keepFault_10 : decode cd_B_keepFault 10 = .ok (.return_, 1) := by decide +kernel
theorem dc_B_wrongField_0 : decode cd_B_wrongField 0 = .ok (.aload_n 0, 1) := by decide +kernel
theorem dc_B_wrongField_1 : decode cd_B_wrongField 1 = .ok (.getfield 10, 3) := by decide +kernel
theorem dc_B_wrongField_4 : decode cd_B_wrongField 4 = .ok (.iconst 0, 1) := by decide +kernel
theorem dc_B_wrongField_5 : decode cd_B_wrongField 5 = .ok (.bipush 8, 2) := by decide +kernel
theorem dc_B_wrongField_7 : decode cd_B_wrongField 7 = .ok (.invokevirtual 136, 3) := by decide +kernel
theorem dc_B_wrongField_10 : decode cd_B_wrongField 10 = .ok (.lconst 0, 1) := by decide +kernel
theorem dc_B_wrongField_11 : decode cd_B_wrongField 11 = .ok (.lcmp, 1) := by decide +kernel
theorem dc_B_wrongField_12 : decode cd_B_wrongField 12 = .ok (.ifCond .eq 5, 3) := by decide +kernel
theorem dc_B_wrongField_15 : decode cd_B_wrongField 15 = .ok (.iconst 0, 1) := by decide +kernel
theorem dc_B_wrongField_16 : decode cd_B_wrongField 16 = .ok (.ireturn, 1) := by decide +kernel
theorem dc_B_wrongField_17 : decode cd_B_wrongField 17 = .ok (.aload_n 0, 1) := by decide +kernel
theorem dc_B_wrongField_18 : decode cd_B_wrongField 18 = .ok (.getfield 10, 3) := by decide +kernel
theorem dc_B_wrongField_21 : decode cd_B_wrongField 21 = .ok (.bipush 12, 2) := by decide +kernel
theorem dc_B_wrongField_23 : decode cd_B_wrongField 23 = .ok (.iconst 4, 1) := by decide +kernel
theorem dc_B_wrongField_24 : decode cd_B_wrongField 24 = .ok (.invokevirtual 136, 3) := by decide +kernel
theorem dc_B_wrongField_27 : decode cd_B_wrongField 27 = .ok (.lconst 0, 1) := by decide +kernel
theorem dc_B_wrongField_28 : decode cd_B_wrongField 28 = .ok (.lcmp, 1) := by decide +kernel
theorem dc_B_wrongField_29 : decode cd_B_wrongField 29 = .ok (.ifCond .eq 6, 3) := by decide +kernel
theorem dc_B_wrongField_32 : decode cd_B_wrongField 32 = .ok (.bipush 12, 2) := by decide +kernel
theorem dc_B_wrongField_34 : decode cd_B_wrongField 34 = .ok (.ireturn, 1) := by decide +kernel
theorem dc_B_wrongField_35 : decode cd_B_wrongField 35 = .ok (.aload_n 0, 1) := by decide +kernel
theorem dc_B_wrongField_36 : decode cd_B_wrongField 36 = .ok (.getfield 10, 3) := by decide +kernel
theorem dc_B_wrongField_39 : decode cd_B_wrongField 39 = .ok (.bipush 16, 2) := by decide +kernel
theorem dc_B_wrongField_41 : decode cd_B_wrongField 41 = .ok (.iconst 1, 1) := by decide +kernel
theorem dc_B_wrongField_42 : decode cd_B_wrongField 42 = .ok (.invokevirtual 136, 3) := by decide +kernel
theorem dc_B_wrongField_45 : decode cd_B_wrongField 45 = .ok (.ldc2_w 170, 3) := by decide +kernel
theorem dc_B_wrongField_48 : decode cd_B_wrongField 48 = .ok (.lcmp, 1) := by decide +kernel
theorem dc_B_wrongField_49 : decode cd_B_wrongField 49 = .ok (.ifCond .eq 6, 3) := by decide +kernel
theorem dc_B_wrongField_52 : decode cd_B_wrongField 52 = .ok (.bipush 16, 2) := by decide +kernel
theorem dc_B_wrongField_54 : decode cd_B_wrongField 54 = .ok (.ireturn, 1) := by decide +kernel
theorem dc_B_wrongField_55 : decode cd_B_wrongField 55 = .ok (.aload_n 0, 1) := by decide +kernel
theorem dc_B_wrongField_56 : decode cd_B_wrongField 56 = .ok (.getfield 10, 3) := by decide +kernel
theorem dc_B_wrongField_59 : decode cd_B_wrongField 59 = .ok (.bipush 21, 2) := by decide +kernel
theorem dc_B_wrongField_61 : decode cd_B_wrongField 61 = .ok (.iconst 2, 1) := by decide +kernel
theorem dc_B_wrongField_62 : decode cd_B_wrongField 62 = .ok (.invokevirtual 136, 3) := by decide +kernel
theorem dc_B_wrongField_65 : decode cd_B_wrongField 65 = .ok (.lconst 0, 1) := by decide +kernel
theorem dc_B_wrongField_66 : decode cd_B_wrongField 66 = .ok (.lcmp, 1) := by decide +kernel
theorem dc_B_wrongField_67 : decode cd_B_wrongField 67 = .ok (.ifCond .eq 6, 3) := by decide +kernel
theorem dc_B_wrongField_70 : decode cd_B_wrongField 70 = .ok (.bipush 21, 2) := by decide +kernel
theorem dc_B_wrongField_72 : decode cd_B_wrongField 72 = .ok (.ireturn, 1) := by decide +kernel
theorem dc_B_wrongField_73 : decode cd_B_wrongField 73 = .ok (.aload_n 0, 1) := by decide +kernel
theorem dc_B_wrongField_74 : decode cd_B_wrongField 74 = .ok (.getfield 10, 3) := by decide +kernel
theorem dc_B_wrongField_77 : decode cd_B_wrongField 77 = .ok (.bipush 23, 2) := by decide +kernel
theorem dc_B_wrongField_79 : decode cd_B_wrongField 79 = .ok (.iconst 4, 1) := by decide +kernel
theorem dc_B_wrongField_80 : decode cd_B_wrongField 80 = .ok (.invokevirtual 136, 3) := by decide +kernel
theorem dc_B_wrongField_83 : decode cd_B_wrongField 83 = .ok (.aload_n 0, 1) := by decide +kernel
theorem dc_B_wrongField_84 : decode cd_B_wrongField 84 = .ok (.getfield 10, 3) := by decide +kernel
theorem dc_B_wrongField_87 : decode cd_B_wrongField 87 = .ok (.bipush 57, 2) := by decide +kernel
theorem dc_B_wrongField_89 : decode cd_B_wrongField 89 = .ok (.iconst 4, 1) := by decide +kernel
theorem dc_B_wrongField_90 : decode cd_B_wrongField 90 = .ok (.invokevirtual 136, 3) := by decide +kernel
theorem dc_B_wrongField_93 : decode cd_B_wrongField 93 = .ok (.lconst 1, 1) := by decide +kernel
theorem dc_B_wrongField_94 : decode cd_B_wrongField 94 = .ok (.lsub, 1) := by decide +kernel
theorem dc_B_wrongField_95 : decode cd_B_wrongField 95 = .ok (.lcmp, 1) := by decide +kernel
theorem dc_B_wrongField_96 : decode cd_B_wrongField 96 = .ok (.ifCond .eq 6, 3) := by decide +kernel
theorem dc_B_wrongField_99 : decode cd_B_wrongField 99 = .ok (.bipush 23, 2) := by decide +kernel
theorem dc_B_wrongField_101 : decode cd_B_wrongField 101 = .ok (.ireturn, 1) := by decide +kernel
theorem dc_B_wrongField_102 : decode cd_B_wrongField 102 = .ok (.aload_n 0, 1) := by decide +kernel
theorem dc_B_wrongField_103 : decode cd_B_wrongField 103 = .ok (.getfield 10, 3) := by decide +kernel
theorem dc_B_wrongField_106 : decode cd_B_wrongField 106 = .ok (.bipush 27, 2) := by decide +kernel
theorem dc_B_wrongField_108 : decode cd_B_wrongField 108 = .ok (.bipush 8, 2) := by decide +kernel
theorem dc_B_wrongField_110 : decode cd_B_wrongField 110 = .ok (.invokevirtual 136, 3) := by decide +kernel
theorem dc_B_wrongField_113 : decode cd_B_wrongField 113 = .ok (.invokestatic 208, 3) := by decide +kernel
theorem dc_B_wrongField_116 : decode cd_B_wrongField 116 = .ok (.ifCond .ne 6, 3) := by decide +kernel
theorem dc_B_wrongField_119 : decode cd_B_wrongField 119 = .ok (.bipush 27, 2) := by decide +kernel
theorem dc_B_wrongField_121 : decode cd_B_wrongField 121 = .ok (.ireturn, 1) := by decide +kernel
theorem dc_B_wrongField_122 : decode cd_B_wrongField 122 = .ok (.aload_n 0, 1) := by decide +kernel
theorem dc_B_wrongField_123 : decode cd_B_wrongField 123 = .ok (.getfield 10, 3) := by decide +kernel
theorem dc_B_wrongField_126 : decode cd_B_wrongField 126 = .ok (.bipush 35, 2) := by decide +kernel
theorem dc_B_wrongField_128 : decode cd_B_wrongField 128 = .ok (.bipush 8, 2) := by decide +kernel
theorem dc_B_wrongField_130 : decode cd_B_wrongField 130 = .ok (.invokevirtual 136, 3) := by decide +kernel
theorem dc_B_wrongField_133 : decode cd_B_wrongField 133 = .ok (.invokestatic 208, 3) := by decide +kernel
theorem dc_B_wrongField_136 : decode cd_B_wrongField 136 = .ok (.ifCond .ne 6, 3) := by decide +kernel
theorem dc_B_wrongField_139 : decode cd_B_wrongField 139 = .ok (.bipush 35, 2) := by decide +kernel
theorem dc_B_wrongField_141 : decode cd_B_wrongField 141 = .ok (.ireturn, 1) := by decide +kernel
theorem dc_B_wrongField_142 : decode cd_B_wrongField 142 = .ok (.aload_n 0, 1) := by decide +kernel
theorem dc_B_wrongField_143 : decode cd_B_wrongField 143 = .ok (.invokevirtual 212, 3) := by decide +kernel
theorem dc_B_wrongField_146 : decode cd_B_wrongField 146 = .ok (.ireturn, 1) := by decide +kernel
theorem dc_B_isTime_0 : decode cd_B_isTime 0 = .ok (.lload_n 0, 1) := by decide +kernel
theorem dc_B_isTime_1 : decode cd_B_isTime 1 = .ok (.lconst 0, 1) := by decide +kernel
theorem dc_B_isTime_2 : decode cd_B_isTime 2 = .ok (.lcmp, 1) := by decide +kernel
theorem dc_B_isTime_3 : decode cd_B_isTime 3 = .ok (.ifCond .lt 15, 3) := by decide +kernel
theorem dc_B_isTime_6 : decode cd_B_isTime 6 = .ok (.lload_n 0, 1) := by decide +kernel
theorem dc_B_isTime_7 : decode cd_B_isTime 7 = .ok (.ldc2_w 217, 3) := by decide +kernel
theorem dc_B_isTime_10 : decode cd_B_isTime 10 = .ok (.lcmp, 1) := by decide +kernel
theorem dc_B_isTime_11 : decode cd_B_isTime 11 = .ok (.ifCond .gt 7, 3) := by decide +kernel
theorem dc_B_isTime_14 : decode cd_B_isTime 14 = .ok (.iconst 1, 1) := by decide +kernel
theorem dc_B_isTime_15 : decode cd_B_isTime 15 = .ok (.goto 4, 3) := by decide +kernel
theorem dc_B_isTime_18 : decode cd_B_isTime 18 = .ok (.iconst 0, 1) := by decide +kernel
theorem dc_B_isTime_19 : decode cd_B_isTime 19 = .ok (.ireturn, 1) := by decide +kernel
theorem dc_B_wrongFieldFromProducer_0 : decode cd_B_wrongFieldFromProducer 0 = .ok (.aload_n 0, 1) := by decide +kernel
theorem dc_B_wrongFieldFromProducer_1 : decode cd_B_wrongFieldFromProducer 1 = .ok (.getfield 10, 3) := by decide +kernel
theorem dc_B_wrongFieldFromProducer_4 : decode cd_B_wrongFieldFromProducer 4 = .ok (.bipush 43, 2) := by decide +kernel
theorem dc_B_wrongFieldFromProducer_6 : decode cd_B_wrongFieldFromProducer 6 = .ok (.bipush 8, 2) := by decide +kernel
theorem dc_B_wrongFieldFromProducer_8 : decode cd_B_wrongFieldFromProducer 8 = .ok (.invokevirtual 136, 3) := by decide +kernel
theorem dc_B_wrongFieldFromProducer_11 : decode cd_B_wrongFieldFromProducer 11 = .ok (.lstore_n 1, 1) := by decide +kernel
theorem dc_B_wrongFieldFromProducer_12 : decode cd_B_wrongFieldFromProducer 12 = .ok (.lload_n 1, 1) := by decide +kernel
theorem dc_B_wrongFieldFromProducer_13 : decode cd_B_wrongFieldFromProducer 13 = .ok (.ldc2_w 215, 3) := by decide +kernel
theorem dc_B_wrongFieldFromProducer_16 : decode cd_B_wrongFieldFromProducer 16 = .ok (.lcmp, 1) := by decide +kernel
theorem dc_B_wrongFieldFromProducer_17 : decode cd_B_wrongFieldFromProducer 17 = .ok (.ifCond .lt 11, 3) := by decide +kernel
theorem dc_B_wrongFieldFromProducer_20 : decode cd_B_wrongFieldFromProducer 20 = .ok (.lload_n 1, 1) := by decide +kernel
theorem dc_B_wrongFieldFromProducer_21 : decode cd_B_wrongFieldFromProducer 21 = .ok (.ldc2_w 217, 3) := by decide +kernel
theorem dc_B_wrongFieldFromProducer_24 : decode cd_B_wrongFieldFromProducer 24 = .ok (.lcmp, 1) := by decide +kernel
theorem dc_B_wrongFieldFromProducer_25 : decode cd_B_wrongFieldFromProducer 25 = .ok (.ifCond .le 6, 3) := by decide +kernel
theorem dc_B_wrongFieldFromProducer_28 : decode cd_B_wrongFieldFromProducer 28 = .ok (.bipush 43, 2) := by decide +kernel
theorem dc_B_wrongFieldFromProducer_30 : decode cd_B_wrongFieldFromProducer 30 = .ok (.ireturn, 1) := by decide +kernel
theorem dc_B_wrongFieldFromProducer_31 : decode cd_B_wrongFieldFromProducer 31 = .ok (.aload_n 0, 1) := by decide +kernel
theorem dc_B_wrongFieldFromProducer_32 : decode cd_B_wrongFieldFromProducer 32 = .ok (.getfield 10, 3) := by decide +kernel
theorem dc_B_wrongFieldFromProducer_35 : decode cd_B_wrongFieldFromProducer 35 = .ok (.bipush 51, 2) := by decide +kernel
theorem dc_B_wrongFieldFromProducer_37 : decode cd_B_wrongFieldFromProducer 37 = .ok (.iconst 2, 1) := by decide +kernel
theorem dc_B_wrongFieldFromProducer_38 : decode cd_B_wrongFieldFromProducer 38 = .ok (.invokevirtual 136, 3) := by decide +kernel
theorem dc_B_wrongFieldFromProducer_41 : decode cd_B_wrongFieldFromProducer 41 = .ok (.lload_n 1, 1) := by decide +kernel
theorem dc_B_wrongFieldFromProducer_42 : decode cd_B_wrongFieldFromProducer 42 = .ok (.invokestatic 219, 3) := by decide +kernel
theorem dc_B_wrongFieldFromProducer_45 : decode cd_B_wrongFieldFromProducer 45 = .ok (.ifCond .ne 6, 3) := by decide +kernel
theorem dc_B_wrongFieldFromProducer_48 : decode cd_B_wrongFieldFromProducer 48 = .ok (.bipush 51, 2) := by decide +kernel
theorem dc_B_wrongFieldFromProducer_50 : decode cd_B_wrongFieldFromProducer 50 = .ok (.ireturn, 1) := by decide +kernel
theorem dc_B_wrongFieldFromProducer_51 : decode cd_B_wrongFieldFromProducer 51 = .ok (.aload_n 0, 1) := by decide +kernel
theorem dc_B_wrongFieldFromProducer_52 : decode cd_B_wrongFieldFromProducer 52 = .ok (.getfield 10, 3) := by decide +kernel
theorem dc_B_wrongFieldFromProducer_55 : decode cd_B_wrongFieldFromProducer 55 = .ok (.bipush 53, 2) := by decide +kernel
theorem dc_B_wrongFieldFromProducer_57 : decode cd_B_wrongFieldFromProducer 57 = .ok (.iconst 4, 1) := by decide +kernel
theorem dc_B_wrongFieldFromProducer_58 : decode cd_B_wrongFieldFromProducer 58 = .ok (.invokevirtual 136, 3) := by decide +kernel
theorem dc_B_wrongFieldFromProducer_61 : decode cd_B_wrongFieldFromProducer 61 = .ok (.lload_n 1, 1) := by decide +kernel
theorem dc_B_wrongFieldFromProducer_62 : decode cd_B_wrongFieldFromProducer 62 = .ok (.invokestatic 219, 3) := by decide +kernel
theorem dc_B_wrongFieldFromProducer_65 : decode cd_B_wrongFieldFromProducer 65 = .ok (.ifCond .ne 6, 3) := by decide +kernel
theorem dc_B_wrongFieldFromProducer_68 : decode cd_B_wrongFieldFromProducer 68 = .ok (.bipush 53, 2) := by decide +kernel
theorem dc_B_wrongFieldFromProducer_70 : decode cd_B_wrongFieldFromProducer 70 = .ok (.ireturn, 1) := by decide +kernel
theorem dc_B_wrongFieldFromProducer_71 : decode cd_B_wrongFieldFromProducer 71 = .ok (.aload_n 0, 1) := by decide +kernel
theorem dc_B_wrongFieldFromProducer_72 : decode cd_B_wrongFieldFromProducer 72 = .ok (.getfield 10, 3) := by decide +kernel
theorem dc_B_wrongFieldFromProducer_75 : decode cd_B_wrongFieldFromProducer 75 = .ok (.bipush 57, 2) := by decide +kernel
theorem dc_B_wrongFieldFromProducer_77 : decode cd_B_wrongFieldFromProducer 77 = .ok (.iconst 4, 1) := by decide +kernel
theorem dc_B_wrongFieldFromProducer_78 : decode cd_B_wrongFieldFromProducer 78 = .ok (.invokevirtual 136, 3) := by decide +kernel
theorem dc_B_wrongFieldFromProducer_81 : decode cd_B_wrongFieldFromProducer 81 = .ok (.lstore_n 3, 1) := by decide +kernel
theorem dc_B_wrongFieldFromProducer_82 : decode cd_B_wrongFieldFromProducer 82 = .ok (.lload_n 3, 1) := by decide +kernel
theorem dc_B_wrongFieldFromProducer_83 : decode cd_B_wrongFieldFromProducer 83 = .ok (.lconst 1, 1) := by decide +kernel
theorem dc_B_wrongFieldFromProducer_84 : decode cd_B_wrongFieldFromProducer 84 = .ok (.lcmp, 1) := by decide +kernel
theorem dc_B_wrongFieldFromProducer_85 : decode cd_B_wrongFieldFromProducer 85 = .ok (.ifCond .lt 11, 3) := by decide +kernel
theorem dc_B_wrongFieldFromProducer_88 : decode cd_B_wrongFieldFromProducer 88 = .ok (.lload_n 3, 1) := by decide +kernel
theorem dc_B_wrongFieldFromProducer_89 : decode cd_B_wrongFieldFromProducer 89 = .ok (.ldc2_w 223, 3) := by decide +kernel
theorem dc_B_wrongFieldFromProducer_92 : decode cd_B_wrongFieldFromProducer 92 = .ok (.lcmp, 1) := by decide +kernel
theorem dc_B_wrongFieldFromProducer_93 : decode cd_B_wrongFieldFromProducer 93 = .ok (.ifCond .le 8, 3) := by decide +kernel
theorem dc_B_wrongFieldFromProducer_96 : decode cd_B_wrongFieldFromProducer 96 = .ok (.bipush 57, 2) := by decide +kernel
theorem dc_B_wrongFieldFromProducer_98 : decode cd_B_wrongFieldFromProducer 98 = .ok (.goto 4, 3) := by decide +kernel
theorem dc_B_wrongFieldFromProducer_101 : decode cd_B_wrongFieldFromProducer 101 = .ok (.iconst (-1), 1) := by decide +kernel
theorem dc_B_wrongFieldFromProducer_102 : decode cd_B_wrongFieldFromProducer 102 = .ok (.ireturn, 1) := by decide +kernel
theorem dc_B_fitsProducer_0 : decode cd_B_fitsProducer 0 = .ok (.lload_n 2, 1) := by decide +kernel
theorem dc_B_fitsProducer_1 : decode cd_B_fitsProducer 1 = .ok (.ldc2_w 215, 3) := by decide +kernel
theorem dc_B_fitsProducer_4 : decode cd_B_fitsProducer 4 = .ok (.lcmp, 1) := by decide +kernel
theorem dc_B_fitsProducer_5 : decode cd_B_fitsProducer 5 = .ok (.ifCond .ne 19, 3) := by decide +kernel
theorem dc_B_fitsProducer_8 : decode cd_B_fitsProducer 8 = .ok (.lload_n 0, 1) := by decide +kernel
theorem dc_B_fitsProducer_9 : decode cd_B_fitsProducer 9 = .ok (.ldc2_w 215, 3) := by decide +kernel
theorem dc_B_fitsProducer_12 : decode cd_B_fitsProducer 12 = .ok (.lcmp, 1) := by decide +kernel
theorem dc_B_fitsProducer_13 : decode cd_B_fitsProducer 13 = .ok (.ifCond .ne 7, 3) := by decide +kernel
theorem dc_B_fitsProducer_16 : decode cd_B_fitsProducer 16 = .ok (.iconst 1, 1) := by decide +kernel
theorem dc_B_fitsProducer_17 : decode cd_B_fitsProducer 17 = .ok (.goto 18, 3) := by decide +kernel
theorem dc_B_fitsProducer_20 : decode cd_B_fitsProducer 20 = .ok (.iconst 0, 1) := by decide +kernel
theorem dc_B_fitsProducer_21 : decode cd_B_fitsProducer 21 = .ok (.goto 14, 3) := by decide +kernel
theorem dc_B_fitsProducer_24 : decode cd_B_fitsProducer 24 = .ok (.lload_n 0, 1) := by decide +kernel
theorem dc_B_fitsProducer_25 : decode cd_B_fitsProducer 25 = .ok (.lconst 0, 1) := by decide +kernel
theorem dc_B_fitsProducer_26 : decode cd_B_fitsProducer 26 = .ok (.lcmp, 1) := by decide +kernel
theorem dc_B_fitsProducer_27 : decode cd_B_fitsProducer 27 = .ok (.ifCond .lt 7, 3) := by decide +kernel
theorem dc_B_fitsProducer_30 : decode cd_B_fitsProducer 30 = .ok (.iconst 1, 1) := by decide +kernel
theorem dc_B_fitsProducer_31 : decode cd_B_fitsProducer 31 = .ok (.goto 4, 3) := by decide +kernel
theorem dc_B_fitsProducer_34 : decode cd_B_fitsProducer 34 = .ok (.iconst 0, 1) := by decide +kernel
theorem dc_B_fitsProducer_35 : decode cd_B_fitsProducer 35 = .ok (.ireturn, 1) := by decide +kernel
theorem dc_B_judgeRecords_0 : decode cd_B_judgeRecords 0 = .ok (.aload_n 0, 1) := by decide +kernel
theorem dc_B_judgeRecords_1 : decode cd_B_judgeRecords 1 = .ok (.getfield 10, 3) := by decide +kernel
theorem dc_B_judgeRecords_4 : decode cd_B_judgeRecords 4 = .ok (.bipush 57, 2) := by decide +kernel
theorem dc_B_judgeRecords_6 : decode cd_B_judgeRecords 6 = .ok (.iconst 4, 1) := by decide +kernel
theorem dc_B_judgeRecords_7 : decode cd_B_judgeRecords 7 = .ok (.invokevirtual 136, 3) := by decide +kernel
theorem dc_B_judgeRecords_10 : decode cd_B_judgeRecords 10 = .ok (.l2i, 1) := by decide +kernel
theorem dc_B_judgeRecords_11 : decode cd_B_judgeRecords 11 = .ok (.istore_n 1, 1) := by decide +kernel
theorem dc_B_judgeRecords_12 : decode cd_B_judgeRecords 12 = .ok (.aload_n 0, 1) := by decide +kernel
theorem dc_B_judgeRecords_13 : decode cd_B_judgeRecords 13 = .ok (.getfield 10, 3) := by decide +kernel
theorem dc_B_judgeRecords_16 : decode cd_B_judgeRecords 16 = .ok (.bipush 27, 2) := by decide +kernel
theorem dc_B_judgeRecords_18 : decode cd_B_judgeRecords 18 = .ok (.bipush 8, 2) := by decide +kernel
theorem dc_B_judgeRecords_20 : decode cd_B_judgeRecords 20 = .ok (.invokevirtual 136, 3) := by decide +kernel
theorem dc_B_judgeRecords_23 : decode cd_B_judgeRecords 23 = .ok (.lstore_n 2, 1) := by decide +kernel
theorem dc_B_judgeRecords_24 : decode cd_B_judgeRecords 24 = .ok (.lconst 0, 1) := by decide +kernel
theorem dc_B_judgeRecords_25 : decode cd_B_judgeRecords 25 = .ok (.lstore 4, 2) := by decide +kernel
theorem dc_B_judgeRecords_27 : decode cd_B_judgeRecords 27 = .ok (.aload_n 0, 1) := by decide +kernel
theorem dc_B_judgeRecords_28 : decode cd_B_judgeRecords 28 = .ok (.getfield 28, 3) := by decide +kernel
theorem dc_B_judgeRecords_31 : decode cd_B_judgeRecords 31 = .ok (.invokevirtual 192, 3) := by decide +kernel
theorem dc_B_judgeRecords_34 : decode cd_B_judgeRecords 34 = .ok (.iconst 0, 1) := by decide +kernel
theorem dc_B_judgeRecords_35 : decode cd_B_judgeRecords 35 = .ok (.istore 6, 2) := by decide +kernel
theorem dc_B_judgeRecords_37 : decode cd_B_judgeRecords 37 = .ok (.iload 6, 2) := by decide +kernel
theorem dc_B_judgeRecords_39 : decode cd_B_judgeRecords 39 = .ok (.iload_n 1, 1) := by decide +kernel
theorem dc_B_judgeRecords_40 : decode cd_B_judgeRecords 40 = .ok (.if_icmp .ge 49, 3) := by decide +kernel
theorem dc_B_judgeRecords_43 : decode cd_B_judgeRecords 43 = .ok (.aload_n 0, 1) := by decide +kernel
theorem dc_B_judgeRecords_44 : decode cd_B_judgeRecords 44 = .ok (.getfield 28, 3) := by decide +kernel
theorem dc_B_judgeRecords_47 : decode cd_B_judgeRecords 47 = .ok (.iload 6, 2) := by decide +kernel
theorem dc_B_judgeRecords_49 : decode cd_B_judgeRecords 49 = .ok (.lload_n 2, 1) := by decide +kernel
theorem dc_B_judgeRecords_50 : decode cd_B_judgeRecords 50 = .ok (.invokevirtual 195, 3) := by decide +kernel
theorem dc_B_judgeRecords_53 : decode cd_B_judgeRecords 53 = .ok (.ifCond .ne 16, 3) := by decide +kernel
theorem dc_B_judgeRecords_56 : decode cd_B_judgeRecords 56 = .ok (.aload_n 0, 1) := by decide +kernel
theorem dc_B_judgeRecords_57 : decode cd_B_judgeRecords 57 = .ok (.iconst 4, 1) := by decide +kernel
theorem dc_B_judgeRecords_58 : decode cd_B_judgeRecords 58 = .ok (.aload_n 0, 1) := by decide +kernel
theorem dc_B_judgeRecords_59 : decode cd_B_judgeRecords 59 = .ok (.getfield 28, 3) := by decide +kernel
theorem dc_B_judgeRecords_62 : decode cd_B_judgeRecords 62 = .ok (.getfield 147, 3) := by decide +kernel
theorem dc_B_judgeRecords_65 : decode cd_B_judgeRecords 65 = .ok (.invokevirtual 179, 3) := by decide +kernel
theorem dc_B_judgeRecords_68 : decode cd_B_judgeRecords 68 = .ok (.return_, 1) := by decide +kernel
theorem dc_B_judgeRecords_69 : decode cd_B_judgeRecords 69 = .ok (.lload 4, 2) := by decide +kernel
theorem dc_B_judgeRecords_71 : decode cd_B_judgeRecords 71 = .ok (.aload_n 0, 1) := by decide +kernel
theorem dc_B_judgeRecords_72 : decode cd_B_judgeRecords 72 = .ok (.getfield 28, 3) := by decide +kernel
theorem dc_B_judgeRecords_75 : decode cd_B_judgeRecords 75 = .ok (.getfield 150, 3) := by decide +kernel
theorem dc_B_judgeRecords_78 : decode cd_B_judgeRecords 78 = .ok (.invokestatic 199, 3) := by decide +kernel
theorem dc_B_judgeRecords_81 : decode cd_B_judgeRecords 81 = .ok (.lstore 4, 2) := by decide +kernel
theorem dc_B_judgeRecords_83 : decode cd_B_judgeRecords 83 = .ok (.iinc 6 1, 3) := by decide +kernel
theorem dc_B_judgeRecords_86 : decode cd_B_judgeRecords 86 = .ok (.goto (-49), 3) := by decide +kernel
theorem dc_B_judgeRecords_89 : decode cd_B_judgeRecords 89 = .ok (.aload_n 0, 1) := by decide +kernel
theorem dc_B_judgeRecords_90 : decode cd_B_judgeRecords 90 = .ok (.getfield 28, 3) := by decide +kernel
theorem dc_B_judgeRecords_93 : decode cd_B_judgeRecords 93 = .ok (.getfield 205, 3) := by decide +kernel
theorem dc_B_judgeRecords_96 : decode cd_B_judgeRecords 96 = .ok (.aload_n 0, 1) := by decide +kernel
theorem dc_B_judgeRecords_97 : decode cd_B_judgeRecords 97 = .ok (.getfield 10, 3) := by decide +kernel
theorem dc_B_judgeRecords_100 : decode cd_B_judgeRecords 100 = .ok (.getfield 39, 3) := by decide +kernel
theorem dc_B_judgeRecords_103 : decode cd_B_judgeRecords 103 = .ok (.if_icmp .ge 18, 3) := by decide +kernel
theorem dc_B_judgeRecords_106 : decode cd_B_judgeRecords 106 = .ok (.aload_n 0, 1) := by decide +kernel
theorem dc_B_judgeRecords_107 : decode cd_B_judgeRecords 107 = .ok (.iconst 4, 1) := by decide +kernel
theorem dc_B_judgeRecords_108 : decode cd_B_judgeRecords 108 = .ok (.aload_n 0, 1) := by decide +kernel
theorem dc_B_judgeRecords_109 : decode cd_B_judgeRecords 109 = .ok (.getfield 28, 3) := by decide +kernel
theorem dc_B_judgeRecords_112 : decode cd_B_judgeRecords 112 = .ok (.getfield 205, 3) := by decide +kernel
theorem dc_B_judgeRecords_115 : decode cd_B_judgeRecords 115 = .ok (.invokevirtual 179, 3) := by decide +kernel
theorem dc_B_judgeRecords_118 : decode cd_B_judgeRecords 118 = .ok (.goto 36, 3) := by decide +kernel
theorem dc_B_judgeRecords_121 : decode cd_B_judgeRecords 121 = .ok (.aload_n 0, 1) := by decide +kernel
theorem dc_B_judgeRecords_122 : decode cd_B_judgeRecords 122 = .ok (.getfield 10, 3) := by decide +kernel
theorem dc_B_judgeRecords_125 : decode cd_B_judgeRecords 125 = .ok (.bipush 35, 2) := by decide +kernel
theorem dc_B_judgeRecords_127 : decode cd_B_judgeRecords 127 = .ok (.bipush 8, 2) := by decide +kernel
theorem dc_B_judgeRecords_129 : decode cd_B_judgeRecords 129 = .ok (.invokevirtual 136, 3) := by decide +kernel
theorem dc_B_judgeRecords_132 : decode cd_B_judgeRecords 132 = .ok (.lload 4, 2) := by decide +kernel
theorem dc_B_judgeRecords_134 : decode cd_B_judgeRecords 134 = .ok (.lcmp, 1) := by decide +kernel
theorem dc_B_judgeRecords_135 : decode cd_B_judgeRecords 135 = .ok (.ifCond .eq 13, 3) := by decide +kernel
theorem dc_B_judgeRecords_138 : decode cd_B_judgeRecords 138 = .ok (.aload_n 0, 1) := by decide +kernel
theorem dc_B_judgeRecords_139 : decode cd_B_judgeRecords 139 = .ok (.iconst 5, 1) := by decide +kernel
theorem dc_B_judgeRecords_140 : decode cd_B_judgeRecords 140 = .ok (.bipush 35, 2) := by decide +kernel
theorem dc_B_judgeRecords_142 : decode cd_B_judgeRecords 142 = .ok (.invokevirtual 179, 3) := by decide +kernel
theorem dc_B_judgeRecords_145 : decode cd_B_judgeRecords 145 = .ok (.goto 9, 3) := by decide +kernel
theorem dc_B_judgeRecords_148 : decode cd_B_judgeRecords 148 = .ok (.aload_n 0, 1) := by decide +kernel
theorem dc_B_judgeRecords_149 : decode cd_B_judgeRecords 149 = .ok (.iconst 0, 1) := by decide +kernel
theorem dc_B_judgeRecords_150 : decode cd_B_judgeRecords 150 = .ok (.iconst (-1), 1) := by decide +kernel
theorem dc_B_judgeRecords_151 : decode cd_B_judgeRecords 151 = .ok (.invokevirtual 179, 3) := by decide +kernel
theorem dc_B_judgeRecords_154 : decode cd_B_judgeRecords 154 = .ok (.return_, 1) := by decide +kernel
theorem dc_R_begin_0 : decode cd_R_begin 0 = .ok (.aload_n 0, 1) := by decide +kernel
theorem dc_R_begin_1 : decode cd_R_begin 1 = .ok (.bipush 61, 2) := by decide +kernel
theorem dc_R_begin_3 : decode cd_R_begin 3 = .ok (.putfield 25, 3) := by decide +kernel
theorem dc_R_begin_6 : decode cd_R_begin 6 = .ok (.return_, 1) := by decide +kernel
theorem dc_R_readRecord_0 : decode cd_R_readRecord 0 = .ok (.aload_n 0, 1) := by decide +kernel
theorem dc_R_readRecord_1 : decode cd_R_readRecord 1 = .ok (.aload_n 0, 1) := by decide +kernel
theorem dc_R_readRecord_2 : decode cd_R_readRecord 2 = .ok (.getfield 25, 3) := by decide +kernel
theorem dc_R_readRecord_5 : decode cd_R_readRecord 5 = .ok (.putfield 36, 3) := by decide +kernel
theorem dc_R_readRecord_8 : decode cd_R_readRecord 8 = .ok (.aload_n 0, 1) := by decide +kernel
theorem dc_R_readRecord_9 : decode cd_R_readRecord 9 = .ok (.aload_n 0, 1) := by decide +kernel
theorem dc_R_readRecord_10 : decode cd_R_readRecord 10 = .ok (.getfield 9, 3) := by decide +kernel
theorem dc_R_readRecord_13 : decode cd_R_readRecord 13 = .ok (.getfield 43, 3) := by decide +kernel
theorem dc_R_readRecord_16 : decode cd_R_readRecord 16 = .ok (.putfield 29, 3) := by decide +kernel
theorem dc_R_readRecord_19 : decode cd_R_readRecord 19 = .ok (.aload_n 0, 1) := by decide +kernel
theorem dc_R_readRecord_20 : decode cd_R_readRecord 20 = .ok (.iconst 1, 1) := by decide +kernel
theorem dc_R_readRecord_21 : decode cd_R_readRecord 21 = .ok (.putfield 32, 3) := by decide +kernel
theorem dc_R_readRecord_24 : decode cd_R_readRecord 24 = .ok (.aload_n 0, 1) := by decide +kernel
theorem dc_R_readRecord_25 : decode cd_R_readRecord 25 = .ok (.invokevirtual 48, 3) := by decide +kernel
theorem dc_R_readRecord_28 : decode cd_R_readRecord 28 = .ok (.lstore 4, 2) := by decide +kernel
theorem dc_R_readRecord_30 : decode cd_R_readRecord 30 = .ok (.aload_n 0, 1) := by decide +kernel
theorem dc_R_readRecord_31 : decode cd_R_readRecord 31 = .ok (.lload 4, 2) := by decide +kernel
theorem dc_R_readRecord_33 : decode cd_R_readRecord 33 = .ok (.lconst 0, 1) := by decide +kernel
theorem dc_R_readRecord_34 : decode cd_R_readRecord 34 = .ok (.lcmp, 1) := by decide +kernel
theorem dc_R_readRecord_35 : decode cd_R_readRecord 35 = .ok (.ifCond .lt 23, 3) := by decide +kernel
theorem dc_R_readRecord_38 : decode cd_R_readRecord 38 = .ok (.lload 4, 2) := by decide +kernel
theorem dc_R_readRecord_40 : decode cd_R_readRecord 40 = .ok (.aload_n 0, 1) := by decide +kernel
theorem dc_R_readRecord_41 : decode cd_R_readRecord 41 = .ok (.getfield 29, 3) := by decide +kernel
theorem dc_R_readRecord_44 : decode cd_R_readRecord 44 = .ok (.aload_n 0, 1) := by decide +kernel
theorem dc_R_readRecord_45 : decode cd_R_readRecord 45 = .ok (.getfield 25, 3) := by decide +kernel
theorem dc_R_readRecord_48 : decode cd_R_readRecord 48 = .ok (.isub, 1) := by decide +kernel
theorem dc_R_readRecord_49 : decode cd_R_readRecord 49 = .ok (.i2l, 1) := by decide +kernel
theorem dc_R_readRecord_50 : decode cd_R_readRecord 50 = .ok (.lcmp, 1) := by decide +kernel
theorem dc_R_readRecord_51 : decode cd_R_readRecord 51 = .ok (.ifCond .gt 7, 3) := by decide +kernel
theorem dc_R_readRecord_54 : decode cd_R_readRecord 54 = .ok (.iconst 1, 1) := by decide +kernel
theorem dc_R_readRecord_55 : decode cd_R_readRecord 55 = .ok (.goto 4, 3) := by decide +kernel
theorem dc_R_readRecord_58 : decode cd_R_readRecord 58 = .ok (.iconst 0, 1) := by decide +kernel
theorem dc_R_readRecord_59 : decode cd_R_readRecord 59 = .ok (.invokevirtual 52, 3) := by decide +kernel
theorem dc_R_readRecord_62 : decode cd_R_readRecord 62 = .ok (.aload_n 0, 1) := by decide +kernel
theorem dc_R_readRecord_63 : decode cd_R_readRecord 63 = .ok (.getfield 32, 3) := by decide +kernel
theorem dc_R_readRecord_66 : decode cd_R_readRecord 66 = .ok (.ifCond .ne 5, 3) := by decide +kernel
theorem dc_R_readRecord_69 : decode cd_R_readRecord 69 = .ok (.iconst 0, 1) := by decide +kernel
theorem dc_R_readRecord_70 : decode cd_R_readRecord 70 = .ok (.ireturn, 1) := by decide +kernel
theorem dc_R_readRecord_71 : decode cd_R_readRecord 71 = .ok (.aload_n 0, 1) := by decide +kernel
theorem dc_R_readRecord_72 : decode cd_R_readRecord 72 = .ok (.aload_n 0, 1) := by decide +kernel
theorem dc_R_readRecord_73 : decode cd_R_readRecord 73 = .ok (.getfield 25, 3) := by decide +kernel
theorem dc_R_readRecord_76 : decode cd_R_readRecord 76 = .ok (.lload 4, 2) := by decide +kernel
theorem dc_R_readRecord_78 : decode cd_R_readRecord 78 = .ok (.l2i, 1) := by decide +kernel
theorem dc_R_readRecord_79 : decode cd_R_readRecord 79 = .ok (.iadd, 1) := by decide +kernel
theorem dc_R_readRecord_80 : decode cd_R_readRecord 80 = .ok (.putfield 29, 3) := by decide +kernel
theorem dc_R_readRecord_83 : decode cd_R_readRecord 83 = .ok (.aload_n 0, 1) := by decide +kernel
theorem dc_R_readRecord_84 : decode cd_R_readRecord 84 = .ok (.aload_n 0, 1) := by decide +kernel
theorem dc_R_readRecord_85 : decode cd_R_readRecord 85 = .ok (.invokevirtual 56, 3) := by decide +kernel
theorem dc_R_readRecord_88 : decode cd_R_readRecord 88 = .ok (.ifCond .ne 7, 3) := by decide +kernel
theorem dc_R_readRecord_91 : decode cd_R_readRecord 91 = .ok (.iconst 1, 1) := by decide +kernel
theorem dc_R_readRecord_92 : decode cd_R_readRecord 92 = .ok (.goto 4, 3) := by decide +kernel
theorem dc_R_readRecord_95 : decode cd_R_readRecord 95 = .ok (.iconst 0, 1) := by decide +kernel
theorem dc_R_readRecord_96 : decode cd_R_readRecord 96 = .ok (.invokevirtual 52, 3) := by decide +kernel
theorem dc_R_readRecord_99 : decode cd_R_readRecord 99 = .ok (.aload_n 0, 1) := by decide +kernel
theorem dc_R_readRecord_100 : decode cd_R_readRecord 100 = .ok (.invokevirtual 48, 3) := by decide +kernel
theorem dc_R_readRecord_103 : decode cd_R_readRecord 103 = .ok (.lstore 6, 2) := by decide +kernel
theorem dc_R_readRecord_105 : decode cd_R_readRecord 105 = .ok (.aload_n 0, 1) := by decide +kernel
theorem dc_R_readRecord_106 : decode cd_R_readRecord 106 = .ok (.lload 6, 2) := by decide +kernel
theorem dc_R_readRecord_108 : decode cd_R_readRecord 108 = .ok (.lload_n 2, 1) := by decide +kernel
theorem dc_R_readRecord_109 : decode cd_R_readRecord 109 = .ok (.lneg, 1) := by decide +kernel
theorem dc_R_readRecord_110 : decode cd_R_readRecord 110 = .ok (.lcmp, 1) := by decide +kernel
theorem dc_R_readRecord_111 : decode cd_R_readRecord 111 = .ok (.ifCond .lt 18, 3) := by decide +kernel
theorem dc_R_readRecord_114 : decode cd_R_readRecord 114 = .ok (.lload 6, 2) := by decide +kernel
theorem dc_R_readRecord_116 : decode cd_R_readRecord 116 = .ok (.ldc2_w 60, 3) := by decide +kernel
theorem dc_R_readRecord_119 : decode cd_R_readRecord 119 = .ok (.lload_n 2, 1) := by decide +kernel
theorem dc_R_readRecord_120 : decode cd_R_readRecord 120 = .ok (.lsub, 1) := by decide +kernel
theorem dc_R_readRecord_121 : decode cd_R_readRecord 121 = .ok (.lcmp, 1) := by decide +kernel
theorem dc_R_readRecord_122 : decode cd_R_readRecord 122 = .ok (.ifCond .gt 7, 3) := by decide +kernel
theorem dc_R_readRecord_125 : decode cd_R_readRecord 125 = .ok (.iconst 1, 1) := by decide +kernel
theorem dc_R_readRecord_126 : decode cd_R_readRecord 126 = .ok (.goto 4, 3) := by decide +kernel
theorem dc_R_readRecord_129 : decode cd_R_readRecord 129 = .ok (.iconst 0, 1) := by decide +kernel
theorem dc_R_readRecord_130 : decode cd_R_readRecord 130 = .ok (.invokevirtual 52, 3) := by decide +kernel
theorem dc_R_readRecord_133 : decode cd_R_readRecord 133 = .ok (.aload_n 0, 1) := by decide +kernel
theorem dc_R_readRecord_134 : decode cd_R_readRecord 134 = .ok (.lload_n 2, 1) := by decide +kernel
theorem dc_R_readRecord_135 : decode cd_R_readRecord 135 = .ok (.lload 6, 2) := by decide +kernel
theorem dc_R_readRecord_137 : decode cd_R_readRecord 137 = .ok (.ladd, 1) := by decide +kernel
theorem dc_R_readRecord_138 : decode cd_R_readRecord 138 = .ok (.putfield 39, 3) := by decide +kernel
theorem dc_R_readRecord_141 : decode cd_R_readRecord 141 = .ok (.aload_n 0, 1) := by decide +kernel
theorem dc_R_readRecord_142 : decode cd_R_readRecord 142 = .ok (.aload_n 0, 1) := by decide +kernel
theorem dc_R_readRecord_143 : decode cd_R_readRecord 143 = .ok (.invokevirtual 48, 3) := by decide +kernel
theorem dc_R_readRecord_146 : decode cd_R_readRecord 146 = .ok (.iload_n 1, 1) := by decide +kernel
theorem dc_R_readRecord_147 : decode cd_R_readRecord 147 = .ok (.i2l, 1) := by decide +kernel
theorem dc_R_readRecord_148 : decode cd_R_readRecord 148 = .ok (.lcmp, 1) := by decide +kernel
theorem dc_R_readRecord_149 : decode cd_R_readRecord 149 = .ok (.ifCond .ne 7, 3) := by decide +kernel
theorem dc_R_readRecord_152 : decode cd_R_readRecord 152 = .ok (.iconst 1, 1) := by decide +kernel
theorem dc_R_readRecord_153 : decode cd_R_readRecord 153 = .ok (.goto 4, 3) := by decide +kernel
theorem dc_R_readRecord_156 : decode cd_R_readRecord 156 = .ok (.iconst 0, 1) := by decide +kernel
theorem dc_R_readRecord_157 : decode cd_R_readRecord 157 = .ok (.invokevirtual 52, 3) := by decide +kernel
theorem dc_R_readRecord_160 : decode cd_R_readRecord 160 = .ok (.aload_n 0, 1) := by decide +kernel
theorem dc_R_readRecord_161 : decode cd_R_readRecord 161 = .ok (.aload_n 0, 1) := by decide +kernel
theorem dc_R_readRecord_162 : decode cd_R_readRecord 162 = .ok (.getfield 18, 3) := by decide +kernel
theorem dc_R_readRecord_165 : decode cd_R_readRecord 165 = .ok (.invokevirtual 62, 3) := by decide +kernel
theorem dc_R_readRecord_168 : decode cd_R_readRecord 168 = .ok (.aload_n 0, 1) := by decide +kernel
theorem dc_R_readRecord_169 : decode cd_R_readRecord 169 = .ok (.aload_n 0, 1) := by decide +kernel
theorem dc_R_readRecord_170 : decode cd_R_readRecord 170 = .ok (.getfield 22, 3) := by decide +kernel
theorem dc_R_readRecord_173 : decode cd_R_readRecord 173 = .ok (.invokevirtual 62, 3) := by decide +kernel
theorem dc_R_readRecord_176 : decode cd_R_readRecord 176 = .ok (.aload_n 0, 1) := by decide +kernel
theorem dc_R_readRecord_177 : decode cd_R_readRecord 177 = .ok (.aload_n 0, 1) := by decide +kernel
theorem dc_R_readRecord_178 : decode cd_R_readRecord 178 = .ok (.invokevirtual 56, 3) := by decide +kernel
theorem dc_R_readRecord_181 : decode cd_R_readRecord 181 = .ok (.ifCond .ne 7, 3) := by decide +kernel
theorem dc_R_readRecord_184 : decode cd_R_readRecord 184 = .ok (.iconst 1, 1) := by decide +kernel
theorem dc_R_readRecord_185 : decode cd_R_readRecord 185 = .ok (.goto 4, 3) := by decide +kernel
theorem dc_R_readRecord_188 : decode cd_R_readRecord 188 = .ok (.iconst 0, 1) := by decide +kernel
theorem dc_R_readRecord_189 : decode cd_R_readRecord 189 = .ok (.invokevirtual 52, 3) := by decide +kernel
theorem dc_R_readRecord_192 : decode cd_R_readRecord 192 = .ok (.aload_n 0, 1) := by decide +kernel
theorem dc_R_readRecord_193 : decode cd_R_readRecord 193 = .ok (.aload_n 0, 1) := by decide +kernel
theorem dc_R_readRecord_194 : decode cd_R_readRecord 194 = .ok (.getfield 25, 3) := by decide +kernel
theorem dc_R_readRecord_197 : decode cd_R_readRecord 197 = .ok (.aload_n 0, 1) := by decide +kernel
theorem dc_R_readRecord_198 : decode cd_R_readRecord 198 = .ok (.getfield 29, 3) := by decide +kernel
theorem dc_R_readRecord_201 : decode cd_R_readRecord 201 = .ok (.if_icmp .ne 7, 3) := by decide +kernel
theorem dc_R_readRecord_204 : decode cd_R_readRecord 204 = .ok (.iconst 1, 1) := by decide +kernel
theorem dc_R_readRecord_205 : decode cd_R_readRecord 205 = .ok (.goto 4, 3) := by decide +kernel
theorem dc_R_readRecord_208 : decode cd_R_readRecord 208 = .ok (.iconst 0, 1) := by decide +kernel
theorem dc_R_readRecord_209 : decode cd_R_readRecord 209 = .ok (.invokevirtual 52, 3) := by decide +kernel
theorem dc_R_readRecord_212 : decode cd_R_readRecord 212 = .ok (.aload_n 0, 1) := by decide +kernel
theorem dc_R_readRecord_213 : decode cd_R_readRecord 213 = .ok (.getfield 32, 3) := by decide +kernel
theorem dc_R_readRecord_216 : decode cd_R_readRecord 216 = .ok (.ireturn, 1) := by decide +kernel
theorem dc_R_readVarint_0 : decode cd_R_readVarint 0 = .ok (.lconst 0, 1) := by decide +kernel
theorem dc_R_readVarint_1 : decode cd_R_readVarint 1 = .ok (.lstore_n 1, 1) := by decide +kernel
theorem dc_R_readVarint_2 : decode cd_R_readVarint 2 = .ok (.iconst 0, 1) := by decide +kernel
theorem dc_R_readVarint_3 : decode cd_R_readVarint 3 = .ok (.istore_n 3, 1) := by decide +kernel
theorem dc_R_readVarint_4 : decode cd_R_readVarint 4 = .ok (.iload_n 3, 1) := by decide +kernel
theorem dc_R_readVarint_5 : decode cd_R_readVarint 5 = .ok (.bipush 10, 2) := by decide +kernel
theorem dc_R_readVarint_7 : decode cd_R_readVarint 7 = .ok (.if_icmp .ge 72, 3) := by decide +kernel
theorem dc_R_readVarint_10 : decode cd_R_readVarint 10 = .ok (.aload_n 0, 1) := by decide +kernel
theorem dc_R_readVarint_11 : decode cd_R_readVarint 11 = .ok (.invokevirtual 56, 3) := by decide +kernel
theorem dc_R_readVarint_14 : decode cd_R_readVarint 14 = .ok (.istore 4, 2) := by decide +kernel
theorem dc_R_readVarint_16 : decode cd_R_readVarint 16 = .ok (.lload_n 1, 1) := by decide +kernel
theorem dc_R_readVarint_17 : decode cd_R_readVarint 17 = .ok (.iload 4, 2) := by decide +kernel
theorem dc_R_readVarint_19 : decode cd_R_readVarint 19 = .ok (.bipush 127, 2) := by decide +kernel
theorem dc_R_readVarint_21 : decode cd_R_readVarint 21 = .ok (.iand, 1) := by decide +kernel
theorem dc_R_readVarint_22 : decode cd_R_readVarint 22 = .ok (.i2l, 1) := by decide +kernel
theorem dc_R_readVarint_23 : decode cd_R_readVarint 23 = .ok (.bipush 7, 2) := by decide +kernel
theorem dc_R_readVarint_25 : decode cd_R_readVarint 25 = .ok (.iload_n 3, 1) := by decide +kernel
theorem dc_R_readVarint_26 : decode cd_R_readVarint 26 = .ok (.imul, 1) := by decide +kernel
theorem dc_R_readVarint_27 : decode cd_R_readVarint 27 = .ok (.lshl, 1) := by decide +kernel
theorem dc_R_readVarint_28 : decode cd_R_readVarint 28 = .ok (.lor, 1) := by decide +kernel
theorem dc_R_readVarint_29 : decode cd_R_readVarint 29 = .ok (.lstore_n 1, 1) := by decide +kernel
theorem dc_R_readVarint_30 : decode cd_R_readVarint 30 = .ok (.iload 4, 2) := by decide +kernel
theorem dc_R_readVarint_32 : decode cd_R_readVarint 32 = .ok (.sipush 128, 3) := by decide +kernel
theorem dc_R_readVarint_35 : decode cd_R_readVarint 35 = .ok (.if_icmp .ge 38, 3) := by decide +kernel
theorem dc_R_readVarint_38 : decode cd_R_readVarint 38 = .ok (.aload_n 0, 1) := by decide +kernel
theorem dc_R_readVarint_39 : decode cd_R_readVarint 39 = .ok (.iload_n 3, 1) := by decide +kernel
theorem dc_R_readVarint_40 : decode cd_R_readVarint 40 = .ok (.ifCond .eq 8, 3) := by decide +kernel
theorem dc_R_readVarint_43 : decode cd_R_readVarint 43 = .ok (.iload 4, 2) := by decide +kernel
theorem dc_R_readVarint_45 : decode cd_R_readVarint 45 = .ok (.ifCond .eq 19, 3) := by decide +kernel
theorem dc_R_readVarint_48 : decode cd_R_readVarint 48 = .ok (.iload_n 3, 1) := by decide +kernel
theorem dc_R_readVarint_49 : decode cd_R_readVarint 49 = .ok (.bipush 9, 2) := by decide +kernel
theorem dc_R_readVarint_51 : decode cd_R_readVarint 51 = .ok (.if_icmp .lt 9, 3) := by decide +kernel
theorem dc_R_readVarint_54 : decode cd_R_readVarint 54 = .ok (.iload 4, 2) := by decide +kernel
theorem dc_R_readVarint_56 : decode cd_R_readVarint 56 = .ok (.iconst 1, 1) := by decide +kernel
theorem dc_R_readVarint_57 : decode cd_R_readVarint 57 = .ok (.if_icmp .ne 7, 3) := by decide +kernel
theorem dc_R_readVarint_60 : decode cd_R_readVarint 60 = .ok (.iconst 1, 1) := by decide +kernel
theorem dc_R_readVarint_61 : decode cd_R_readVarint 61 = .ok (.goto 4, 3) := by decide +kernel
theorem dc_R_readVarint_64 : decode cd_R_readVarint 64 = .ok (.iconst 0, 1) := by decide +kernel
theorem dc_R_readVarint_65 : decode cd_R_readVarint 65 = .ok (.invokevirtual 52, 3) := by decide +kernel
theorem dc_R_readVarint_68 : decode cd_R_readVarint 68 = .ok (.lload_n 1, 1) := by decide +kernel
theorem dc_R_readVarint_69 : decode cd_R_readVarint 69 = .ok (.invokestatic 78, 3) := by decide +kernel
theorem dc_R_readVarint_72 : decode cd_R_readVarint 72 = .ok (.lreturn, 1) := by decide +kernel
theorem dc_R_readVarint_73 : decode cd_R_readVarint 73 = .ok (.iinc 3 1, 3) := by decide +kernel
theorem dc_R_readVarint_76 : decode cd_R_readVarint 76 = .ok (.goto (-72), 3) := by decide +kernel
theorem dc_R_readVarint_79 : decode cd_R_readVarint 79 = .ok (.aload_n 0, 1) := by decide +kernel
theorem dc_R_readVarint_80 : decode cd_R_readVarint 80 = .ok (.iconst 0, 1) := by decide +kernel
theorem dc_R_readVarint_81 : decode cd_R_readVarint 81 = .ok (.putfield 32, 3) := by decide +kernel
theorem dc_R_readVarint_84 : decode cd_R_readVarint 84 = .ok (.lconst 0, 1) := by decide +kernel
theorem dc_R_readVarint_85 : decode cd_R_readVarint 85 = .ok (.lreturn, 1) := by decide +kernel
theorem dc_R_readByte_0 : decode cd_R_readByte 0 = .ok (.aload_n 0, 1) := by decide +kernel
theorem dc_R_readByte_1 : decode cd_R_readByte 1 = .ok (.getfield 25, 3) := by decide +kernel
theorem dc_R_readByte_4 : decode cd_R_readByte 4 = .ok (.aload_n 0, 1) := by decide +kernel
theorem dc_R_readByte_5 : decode cd_R_readByte 5 = .ok (.getfield 29, 3) := by decide +kernel
theorem dc_R_readByte_8 : decode cd_R_readByte 8 = .ok (.if_icmp .lt 10, 3) := by decide +kernel
theorem dc_R_readByte_11 : decode cd_R_readByte 11 = .ok (.aload_n 0, 1) := by decide +kernel
theorem dc_R_readByte_12 : decode cd_R_readByte 12 = .ok (.iconst 0, 1) := by decide +kernel
theorem dc_R_readByte_13 : decode cd_R_readByte 13 = .ok (.putfield 32, 3) := by decide +kernel
theorem dc_R_readByte_16 : decode cd_R_readByte 16 = .ok (.iconst 0, 1) := by decide +kernel
theorem dc_R_readByte_17 : decode cd_R_readByte 17 = .ok (.ireturn, 1) := by decide +kernel
theorem dc_R_readByte_18 : decode cd_R_readByte 18 = .ok (.aload_n 0, 1) := by decide +kernel
theorem dc_R_readByte_19 : decode cd_R_readByte 19 = .ok (.getfield 9, 3) := by decide +kernel
theorem dc_R_readByte_22 : decode cd_R_readByte 22 = .ok (.aload_n 0, 1) := by decide +kernel
theorem dc_R_readByte_23 : decode cd_R_readByte 23 = .ok (.getfield 25, 3) := by decide +kernel
theorem dc_R_readByte_26 : decode cd_R_readByte 26 = .ok (.invokevirtual 82, 3) := by decide +kernel
theorem dc_R_readByte_29 : decode cd_R_readByte 29 = .ok (.istore_n 1, 1) := by decide +kernel
theorem dc_R_readByte_30 : decode cd_R_readByte 30 = .ok (.aload_n 0, 1) := by decide +kernel
theorem dc_R_readByte_31 : decode cd_R_readByte 31 = .ok (.dup, 1) := by decide +kernel
theorem dc_R_readByte_32 : decode cd_R_readByte 32 = .ok (.getfield 25, 3) := by decide +kernel
theorem dc_R_readByte_35 : decode cd_R_readByte 35 = .ok (.iconst 1, 1) := by decide +kernel
theorem dc_R_readByte_36 : decode cd_R_readByte 36 = .ok (.iadd, 1) := by decide +kernel
theorem dc_R_readByte_37 : decode cd_R_readByte 37 = .ok (.putfield 25, 3) := by decide +kernel
theorem dc_R_readByte_40 : decode cd_R_readByte 40 = .ok (.iload_n 1, 1) := by decide +kernel
theorem dc_R_readByte_41 : decode cd_R_readByte 41 = .ok (.ireturn, 1) := by decide +kernel
theorem dc_R_expect_0 : decode cd_R_expect 0 = .ok (.aload_n 0, 1) := by decide +kernel
theorem dc_R_expect_1 : decode cd_R_expect 1 = .ok (.aload_n 0, 1) := by decide +kernel
theorem dc_R_expect_2 : decode cd_R_expect 2 = .ok (.getfield 32, 3) := by decide +kernel
theorem dc_R_expect_5 : decode cd_R_expect 5 = .ok (.ifCond .eq 11, 3) := by decide +kernel
theorem dc_R_expect_8 : decode cd_R_expect 8 = .ok (.iload_n 1, 1) := by decide +kernel
theorem dc_R_expect_9 : decode cd_R_expect 9 = .ok (.ifCond .eq 7, 3) := by decide +kernel
theorem dc_R_expect_12 : decode cd_R_expect 12 = .ok (.iconst 1, 1) := by decide +kernel
theorem dc_R_expect_13 : decode cd_R_expect 13 = .ok (.goto 4, 3) := by decide +kernel
theorem dc_R_expect_16 : decode cd_R_expect 16 = .ok (.iconst 0, 1) := by decide +kernel
theorem dc_R_expect_17 : decode cd_R_expect 17 = .ok (.putfield 32, 3) := by decide +kernel
theorem dc_R_expect_20 : decode cd_R_expect 20 = .ok (.return_, 1) := by decide +kernel
theorem dc_B_unfolded_0 : decode cd_B_unfolded 0 = .ok (.lload_n 0, 1) := by decide +kernel
theorem dc_B_unfolded_1 : decode cd_B_unfolded 1 = .ok (.iconst 1, 1) := by decide +kernel
theorem dc_B_unfolded_2 : decode cd_B_unfolded 2 = .ok (.lushr, 1) := by decide +kernel
theorem dc_B_unfolded_3 : decode cd_B_unfolded 3 = .ok (.lload_n 0, 1) := by decide +kernel
theorem dc_B_unfolded_4 : decode cd_B_unfolded 4 = .ok (.lconst 1, 1) := by decide +kernel
theorem dc_B_unfolded_5 : decode cd_B_unfolded 5 = .ok (.land, 1) := by decide +kernel
theorem dc_B_unfolded_6 : decode cd_B_unfolded 6 = .ok (.lneg, 1) := by decide +kernel
theorem dc_B_unfolded_7 : decode cd_B_unfolded 7 = .ok (.lxor, 1) := by decide +kernel
theorem dc_B_unfolded_8 : decode cd_B_unfolded 8 = .ok (.lreturn, 1) := by decide +kernel
theorem dc_R_readPart_0 : decode cd_R_readPart 0 = .ok (.aload_n 0, 1) := by decide +kernel
theorem dc_R_readPart_1 : decode cd_R_readPart 1 = .ok (.invokevirtual 48, 3) := by decide +kernel
theorem dc_R_readPart_4 : decode cd_R_readPart 4 = .ok (.lstore_n 2, 1) := by decide +kernel
theorem dc_R_readPart_5 : decode cd_R_readPart 5 = .ok (.aload_n 0, 1) := by decide +kernel
theorem dc_R_readPart_6 : decode cd_R_readPart 6 = .ok (.lload_n 2, 1) := by decide +kernel
theorem dc_R_readPart_7 : decode cd_R_readPart 7 = .ok (.ldc2_w 66, 3) := by decide +kernel
theorem dc_R_readPart_10 : decode cd_R_readPart 10 = .ok (.lcmp, 1) := by decide +kernel
theorem dc_R_readPart_11 : decode cd_R_readPart 11 = .ok (.ifCond .lt 22, 3) := by decide +kernel
theorem dc_R_readPart_14 : decode cd_R_readPart 14 = .ok (.lload_n 2, 1) := by decide +kernel
theorem dc_R_readPart_15 : decode cd_R_readPart 15 = .ok (.aload_n 0, 1) := by decide +kernel
theorem dc_R_readPart_16 : decode cd_R_readPart 16 = .ok (.getfield 29, 3) := by decide +kernel
theorem dc_R_readPart_19 : decode cd_R_readPart 19 = .ok (.aload_n 0, 1) := by decide +kernel
theorem dc_R_readPart_20 : decode cd_R_readPart 20 = .ok (.getfield 25, 3) := by decide +kernel
theorem dc_R_readPart_23 : decode cd_R_readPart 23 = .ok (.isub, 1) := by decide +kernel
theorem dc_R_readPart_24 : decode cd_R_readPart 24 = .ok (.i2l, 1) := by decide +kernel
theorem dc_R_readPart_25 : decode cd_R_readPart 25 = .ok (.lcmp, 1) := by decide +kernel
theorem dc_R_readPart_26 : decode cd_R_readPart 26 = .ok (.ifCond .gt 7, 3) := by decide +kernel
theorem dc_R_readPart_29 : decode cd_R_readPart 29 = .ok (.iconst 1, 1) := by decide +kernel
theorem dc_R_readPart_30 : decode cd_R_readPart 30 = .ok (.goto 4, 3) := by decide +kernel
theorem dc_R_readPart_33 : decode cd_R_readPart 33 = .ok (.iconst 0, 1) := by decide +kernel
theorem dc_R_readPart_34 : decode cd_R_readPart 34 = .ok (.invokevirtual 52, 3) := by decide +kernel
theorem dc_R_readPart_37 : decode cd_R_readPart 37 = .ok (.aload_n 1, 1) := by decide +kernel
theorem dc_R_readPart_38 : decode cd_R_readPart 38 = .ok (.aload_n 0, 1) := by decide +kernel
theorem dc_R_readPart_39 : decode cd_R_readPart 39 = .ok (.getfield 32, 3) := by decide +kernel
theorem dc_R_readPart_42 : decode cd_R_readPart 42 = .ok (.ifCond .eq 8, 3) := by decide +kernel
theorem dc_R_readPart_45 : decode cd_R_readPart 45 = .ok (.lload_n 2, 1) := by decide +kernel
theorem dc_R_readPart_46 : decode cd_R_readPart 46 = .ok (.l2i, 1) := by decide +kernel
theorem dc_R_readPart_47 : decode cd_R_readPart 47 = .ok (.goto 4, 3) := by decide +kernel
theorem dc_R_readPart_50 : decode cd_R_readPart 50 = .ok (.iconst (-1), 1) := by decide +kernel
theorem dc_R_readPart_51 : decode cd_R_readPart 51 = .ok (.putfield 68, 3) := by decide +kernel
theorem dc_R_readPart_54 : decode cd_R_readPart 54 = .ok (.aload_n 1, 1) := by decide +kernel
theorem dc_R_readPart_55 : decode cd_R_readPart 55 = .ok (.aload_n 0, 1) := by decide +kernel
theorem dc_R_readPart_56 : decode cd_R_readPart 56 = .ok (.getfield 25, 3) := by decide +kernel
theorem dc_R_readPart_59 : decode cd_R_readPart 59 = .ok (.putfield 71, 3) := by decide +kernel
theorem dc_R_readPart_62 : decode cd_R_readPart 62 = .ok (.aload_n 0, 1) := by decide +kernel
theorem dc_R_readPart_63 : decode cd_R_readPart 63 = .ok (.dup, 1) := by decide +kernel
theorem dc_R_readPart_64 : decode cd_R_readPart 64 = .ok (.getfield 25, 3) := by decide +kernel
theorem dc_R_readPart_67 : decode cd_R_readPart 67 = .ok (.aload_n 1, 1) := by decide +kernel
theorem dc_R_readPart_68 : decode cd_R_readPart 68 = .ok (.getfield 68, 3) := by decide +kernel
theorem dc_R_readPart_71 : decode cd_R_readPart 71 = .ok (.iconst 0, 1) := by decide +kernel
theorem dc_R_readPart_72 : decode cd_R_readPart 72 = .ok (.invokestatic 72, 3) := by decide +kernel
theorem dc_R_readPart_75 : decode cd_R_readPart 75 = .ok (.iadd, 1) := by decide +kernel
theorem dc_R_readPart_76 : decode cd_R_readPart 76 = .ok (.putfield 25, 3) := by decide +kernel
theorem dc_R_readPart_79 : decode cd_R_readPart 79 = .ok (.return_, 1) := by decide +kernel
theorem dc_MA_max1_0 : decode cd_MA_max1 0 = .ok (.lload_n 0, 1) := by decide +kernel
theorem dc_MA_max1_1 : decode cd_MA_max1 1 = .ok (.lload_n 2, 1) := by decide +kernel
theorem dc_MA_max1_2 : decode cd_MA_max1 2 = .ok (.lcmp, 1) := by decide +kernel
theorem dc_MA_max1_3 : decode cd_MA_max1 3 = .ok (.ifCond .lt 7, 3) := by decide +kernel
theorem dc_MA_max1_6 : decode cd_MA_max1 6 = .ok (.lload_n 0, 1) := by decide +kernel
theorem dc_MA_max1_7 : decode cd_MA_max1 7 = .ok (.goto 4, 3) := by decide +kernel
theorem dc_MA_max1_10 : decode cd_MA_max1 10 = .ok (.lload_n 2, 1) := by decide +kernel
theorem dc_MA_max1_11 : decode cd_MA_max1 11 = .ok (.lreturn, 1) := by decide +kernel
theorem dc_L_head_0 : decode cd_L_head 0 = .ok (.aload_n 2, 1) := by decide +kernel
theorem dc_L_head_1 : decode cd_L_head 1 = .ok (.iconst 0, 1) := by decide +kernel
theorem dc_L_head_2 : decode cd_L_head 2 = .ok (.aload_n 0, 1) := by decide +kernel
theorem dc_L_head_3 : decode cd_L_head 3 = .ok (.iload_n 1, 1) := by decide +kernel
theorem dc_L_head_4 : decode cd_L_head 4 = .ok (.invokevirtual 39, 3) := by decide +kernel
theorem dc_L_head_7 : decode cd_L_head 7 = .ok (.lastore, 1) := by decide +kernel
theorem dc_L_head_8 : decode cd_L_head 8 = .ok (.goto 6, 3) := by decide +kernel
theorem dc_L_head_11 : decode cd_L_head 11 = .ok (.astore_n 3, 1) := by decide +kernel
theorem dc_L_head_12 : decode cd_L_head 12 = .ok (.iconst 1, 1) := by decide +kernel
theorem dc_L_head_13 : decode cd_L_head 13 = .ok (.ireturn, 1) := by decide +kernel
theorem dc_L_head_14 : decode cd_L_head 14 = .ok (.iconst 0, 1) := by decide +kernel
theorem dc_L_head_15 : decode cd_L_head 15 = .ok (.ireturn, 1) := by decide +kernel
theorem dc_B_head_0 : decode cd_B_head 0 = .ok (.aload_n 0, 1) := by decide +kernel
theorem dc_B_head_1 : decode cd_B_head 1 = .ok (.invokevirtual 131, 3) := by decide +kernel
theorem dc_B_head_4 : decode cd_B_head 4 = .ok (.aload_n 0, 1) := by decide +kernel
theorem dc_B_head_5 : decode cd_B_head 5 = .ok (.getfield 32, 3) := by decide +kernel
theorem dc_B_head_8 : decode cd_B_head 8 = .ok (.ifCond .eq 13, 3) := by decide +kernel
theorem dc_B_head_11 : decode cd_B_head 11 = .ok (.new 57, 3) := by decide +kernel
theorem dc_B_head_14 : decode cd_B_head 14 = .ok (.dup, 1) := by decide +kernel
theorem dc_B_head_15 : decode cd_B_head 15 = .ok (.ldc 134, 2) := by decide +kernel
theorem dc_B_head_17 : decode cd_B_head 17 = .ok (.invokespecial 61, 3) := by decide +kernel
theorem dc_B_head_20 : decode cd_B_head 20 = .ok (.athrow, 1) := by decide +kernel
theorem dc_B_head_21 : decode cd_B_head 21 = .ok (.iload_n 1, 1) := by decide +kernel
theorem dc_B_head_22 : decode cd_B_head 22 = .ok (.tableswitch 107 0 5 #[38, 50, 62, 74, 85, 96], 38) := by decide +kernel
theorem dc_B_head_60 : decode cd_B_head 60 = .ok (.aload_n 0, 1) := by decide +kernel
theorem dc_B_head_61 : decode cd_B_head 61 = .ok (.getfield 10, 3) := by decide +kernel
theorem dc_B_head_64 : decode cd_B_head 64 = .ok (.bipush 27, 2) := by decide +kernel
theorem dc_B_head_66 : decode cd_B_head 66 = .ok (.bipush 8, 2) := by decide +kernel
theorem dc_B_head_68 : decode cd_B_head 68 = .ok (.invokevirtual 136, 3) := by decide +kernel
theorem dc_B_head_71 : decode cd_B_head 71 = .ok (.lreturn, 1) := by decide +kernel
theorem dc_B_head_72 : decode cd_B_head 72 = .ok (.aload_n 0, 1) := by decide +kernel
theorem dc_B_head_73 : decode cd_B_head 73 = .ok (.getfield 10, 3) := by decide +kernel
theorem dc_B_head_76 : decode cd_B_head 76 = .ok (.bipush 35, 2) := by decide +kernel
theorem dc_B_head_78 : decode cd_B_head 78 = .ok (.bipush 8, 2) := by decide +kernel
theorem dc_B_head_80 : decode cd_B_head 80 = .ok (.invokevirtual 136, 3) := by decide +kernel
theorem dc_B_head_83 : decode cd_B_head 83 = .ok (.lreturn, 1) := by decide +kernel
theorem dc_B_head_84 : decode cd_B_head 84 = .ok (.aload_n 0, 1) := by decide +kernel
theorem dc_B_head_85 : decode cd_B_head 85 = .ok (.getfield 10, 3) := by decide +kernel
theorem dc_B_head_88 : decode cd_B_head 88 = .ok (.bipush 43, 2) := by decide +kernel
theorem dc_B_head_90 : decode cd_B_head 90 = .ok (.bipush 8, 2) := by decide +kernel
theorem dc_B_head_92 : decode cd_B_head 92 = .ok (.invokevirtual 136, 3) := by decide +kernel
theorem dc_B_head_95 : decode cd_B_head 95 = .ok (.lreturn, 1) := by decide +kernel
theorem dc_B_head_96 : decode cd_B_head 96 = .ok (.aload_n 0, 1) := by decide +kernel
theorem dc_B_head_97 : decode cd_B_head 97 = .ok (.getfield 10, 3) := by decide +kernel
theorem dc_B_head_100 : decode cd_B_head 100 = .ok (.bipush 51, 2) := by decide +kernel
theorem dc_B_head_102 : decode cd_B_head 102 = .ok (.iconst 2, 1) := by decide +kernel
theorem dc_B_head_103 : decode cd_B_head 103 = .ok (.invokevirtual 136, 3) := by decide +kernel
theorem dc_B_head_106 : decode cd_B_head 106 = .ok (.lreturn, 1) := by decide +kernel
theorem dc_B_head_107 : decode cd_B_head 107 = .ok (.aload_n 0, 1) := by decide +kernel
theorem dc_B_head_108 : decode cd_B_head 108 = .ok (.getfield 10, 3) := by decide +kernel
theorem dc_B_head_111 : decode cd_B_head 111 = .ok (.bipush 53, 2) := by decide +kernel
theorem dc_B_head_113 : decode cd_B_head 113 = .ok (.iconst 4, 1) := by decide +kernel
theorem dc_B_head_114 : decode cd_B_head 114 = .ok (.invokevirtual 136, 3) := by decide +kernel
theorem dc_B_head_117 : decode cd_B_head 117 = .ok (.lreturn, 1) := by decide +kernel
theorem dc_B_head_118 : decode cd_B_head 118 = .ok (.aload_n 0, 1) := by decide +kernel
theorem dc_B_head_119 : decode cd_B_head 119 = .ok (.getfield 10, 3) := by decide +kernel
theorem dc_B_head_122 : decode cd_B_head 122 = .ok (.bipush 57, 2) := by decide +kernel
theorem dc_B_head_124 : decode cd_B_head 124 = .ok (.iconst 4, 1) := by decide +kernel
theorem dc_B_head_125 : decode cd_B_head 125 = .ok (.invokevirtual 136, 3) := by decide +kernel
theorem dc_B_head_128 : decode cd_B_head 128 = .ok (.lreturn, 1) := by decide +kernel
theorem dc_B_head_129 : decode cd_B_head 129 = .ok (.new 57, 3) := by decide +kernel
theorem dc_B_head_132 : decode cd_B_head 132 = .ok (.dup, 1) := by decide +kernel
theorem dc_B_head_133 : decode cd_B_head 133 = .ok (.ldc 140, 2) := by decide +kernel
theorem dc_B_head_135 : decode cd_B_head 135 = .ok (.invokespecial 61, 3) := by decide +kernel
theorem dc_B_head_138 : decode cd_B_head 138 = .ok (.athrow, 1) := by decide +kernel
theorem dc_L_told_0 : decode cd_L_told 0 = .ok (.aload_n 3, 1) := by decide +kernel
theorem dc_L_told_1 : decode cd_L_told 1 = .ok (.iconst 0, 1) := by decide +kernel
theorem dc_L_told_2 : decode cd_L_told 2 = .ok (.aload_n 0, 1) := by decide +kernel
theorem dc_L_told_3 : decode cd_L_told 3 = .ok (.iload_n 1, 1) := by decide +kernel
theorem dc_L_told_4 : decode cd_L_told 4 = .ok (.iload_n 2, 1) := by decide +kernel
theorem dc_L_told_5 : decode cd_L_told 5 = .ok (.invokevirtual 43, 3) := by decide +kernel
theorem dc_L_told_8 : decode cd_L_told 8 = .ok (.lastore, 1) := by decide +kernel
theorem dc_L_told_9 : decode cd_L_told 9 = .ok (.goto 7, 3) := by decide +kernel
theorem dc_L_told_12 : decode cd_L_told 12 = .ok (.astore 4, 2) := by decide +kernel
theorem dc_L_told_14 : decode cd_L_told 14 = .ok (.iconst 1, 1) := by decide +kernel
theorem dc_L_told_15 : decode cd_L_told 15 = .ok (.ireturn, 1) := by decide +kernel
theorem dc_L_told_16 : decode cd_L_told 16 = .ok (.iconst 0, 1) := by decide +kernel
theorem dc_L_told_17 : decode cd_L_told 17 = .ok (.ireturn, 1) := by decide +kernel
theorem dc_B_told_0 : decode cd_B_told 0 = .ok (.aload_n 0, 1) := by decide +kernel
theorem dc_B_told_1 : decode cd_B_told 1 = .ok (.invokevirtual 131, 3) := by decide +kernel
theorem dc_B_told_4 : decode cd_B_told 4 = .ok (.aload_n 0, 1) := by decide +kernel
theorem dc_B_told_5 : decode cd_B_told 5 = .ok (.getfield 32, 3) := by decide +kernel
theorem dc_B_told_8 : decode cd_B_told 8 = .ok (.ifCond .eq 13, 3) := by decide +kernel
theorem dc_B_told_11 : decode cd_B_told 11 = .ok (.new 57, 3) := by decide +kernel
theorem dc_B_told_14 : decode cd_B_told 14 = .ok (.dup, 1) := by decide +kernel
theorem dc_B_told_15 : decode cd_B_told 15 = .ok (.ldc 134, 2) := by decide +kernel
theorem dc_B_told_17 : decode cd_B_told 17 = .ok (.invokespecial 61, 3) := by decide +kernel
theorem dc_B_told_20 : decode cd_B_told 20 = .ok (.athrow, 1) := by decide +kernel
theorem dc_B_told_21 : decode cd_B_told 21 = .ok (.iload_n 1, 1) := by decide +kernel
theorem dc_B_told_22 : decode cd_B_told 22 = .ok (.ifCond .lt 19, 3) := by decide +kernel
theorem dc_B_told_25 : decode cd_B_told 25 = .ok (.iload_n 1, 1) := by decide +kernel
theorem dc_B_told_26 : decode cd_B_told 26 = .ok (.i2l, 1) := by decide +kernel
theorem dc_B_told_27 : decode cd_B_told 27 = .ok (.aload_n 0, 1) := by decide +kernel
theorem dc_B_told_28 : decode cd_B_told 28 = .ok (.getfield 10, 3) := by decide +kernel
theorem dc_B_told_31 : decode cd_B_told 31 = .ok (.bipush 57, 2) := by decide +kernel
theorem dc_B_told_33 : decode cd_B_told 33 = .ok (.iconst 4, 1) := by decide +kernel
theorem dc_B_told_34 : decode cd_B_told 34 = .ok (.invokevirtual 136, 3) := by decide +kernel
theorem dc_B_told_37 : decode cd_B_told 37 = .ok (.lcmp, 1) := by decide +kernel
theorem dc_B_told_38 : decode cd_B_told 38 = .ok (.ifCond .lt 13, 3) := by decide +kernel
theorem dc_B_told_41 : decode cd_B_told 41 = .ok (.new 57, 3) := by decide +kernel
theorem dc_B_told_44 : decode cd_B_told 44 = .ok (.dup, 1) := by decide +kernel
theorem dc_B_told_45 : decode cd_B_told 45 = .ok (.ldc 142, 2) := by decide +kernel
theorem dc_B_told_47 : decode cd_B_told 47 = .ok (.invokespecial 61, 3) := by decide +kernel
theorem dc_B_told_50 : decode cd_B_told 50 = .ok (.athrow, 1) := by decide +kernel
theorem dc_B_told_51 : decode cd_B_told 51 = .ok (.aload_n 0, 1) := by decide +kernel
theorem dc_B_told_52 : decode cd_B_told 52 = .ok (.iload_n 1, 1) := by decide +kernel
theorem dc_B_told_53 : decode cd_B_told 53 = .ok (.invokevirtual 144, 3) := by decide +kernel
theorem dc_B_told_56 : decode cd_B_told 56 = .ok (.iload_n 2, 1) := by decide +kernel
theorem dc_B_told_57 : decode cd_B_told 57 = .ok (.tableswitch 104 0 5 #[39, 48, 56, 68, 80, 92], 39) := by decide +kernel
theorem dc_B_told_96 : decode cd_B_told 96 = .ok (.aload_n 0, 1) := by decide +kernel
theorem dc_B_told_97 : decode cd_B_told 97 = .ok (.getfield 28, 3) := by decide +kernel
theorem dc_B_told_100 : decode cd_B_told 100 = .ok (.getfield 147, 3) := by decide +kernel
theorem dc_B_told_103 : decode cd_B_told 103 = .ok (.i2l, 1) := by decide +kernel
theorem dc_B_told_104 : decode cd_B_told 104 = .ok (.lreturn, 1) := by decide +kernel
theorem dc_B_told_105 : decode cd_B_told 105 = .ok (.aload_n 0, 1) := by decide +kernel
theorem dc_B_told_106 : decode cd_B_told 106 = .ok (.getfield 28, 3) := by decide +kernel
theorem dc_B_told_109 : decode cd_B_told 109 = .ok (.getfield 150, 3) := by decide +kernel
theorem dc_B_told_112 : decode cd_B_told 112 = .ok (.lreturn, 1) := by decide +kernel
theorem dc_B_told_113 : decode cd_B_told 113 = .ok (.aload_n 0, 1) := by decide +kernel
theorem dc_B_told_114 : decode cd_B_told 114 = .ok (.getfield 28, 3) := by decide +kernel
theorem dc_B_told_117 : decode cd_B_told 117 = .ok (.getfield 154, 3) := by decide +kernel
theorem dc_B_told_120 : decode cd_B_told 120 = .ok (.getfield 158, 3) := by decide +kernel
theorem dc_B_told_123 : decode cd_B_told 123 = .ok (.i2l, 1) := by decide +kernel
theorem dc_B_told_124 : decode cd_B_told 124 = .ok (.lreturn, 1) := by decide +kernel
theorem dc_B_told_125 : decode cd_B_told 125 = .ok (.aload_n 0, 1) := by decide +kernel
theorem dc_B_told_126 : decode cd_B_told 126 = .ok (.aload_n 0, 1) := by decide +kernel
theorem dc_B_told_127 : decode cd_B_told 127 = .ok (.getfield 28, 3) := by decide +kernel
theorem dc_B_told_130 : decode cd_B_told 130 = .ok (.getfield 154, 3) := by decide +kernel
theorem dc_B_told_133 : decode cd_B_told 133 = .ok (.invokevirtual 163, 3) := by decide +kernel
theorem dc_B_told_136 : decode cd_B_told 136 = .ok (.lreturn, 1) := by decide +kernel
theorem dc_B_told_137 : decode cd_B_told 137 = .ok (.aload_n 0, 1) := by decide +kernel
theorem dc_B_told_138 : decode cd_B_told 138 = .ok (.getfield 28, 3) := by decide +kernel
theorem dc_B_told_141 : decode cd_B_told 141 = .ok (.getfield 167, 3) := by decide +kernel
theorem dc_B_told_144 : decode cd_B_told 144 = .ok (.getfield 158, 3) := by decide +kernel
theorem dc_B_told_147 : decode cd_B_told 147 = .ok (.i2l, 1) := by decide +kernel
theorem dc_B_told_148 : decode cd_B_told 148 = .ok (.lreturn, 1) := by decide +kernel
