theorem dc_B_told_149 : decode cd_B_told 149 = .ok (.aload_n 0, 1) := by decide +kernel
theorem dc_B_told_150 : decode cd_B_told 150 = .ok (.aload_n 0, 1) := by decide +kernel
theorem dc_B_told_151 : decode cd_B_told 151 = .ok (.getfield 28, 3) := by decide +kernel
theorem dc_B_told_154 : decode cd_B_told 154 = .ok (.getfield 167, 3) := by decide +kernel
theorem dc_B_told_157 : decode cd_B_told 157 = .ok (.invokevirtual 163, 3) := by decide +kernel
theorem dc_B_told_160 : decode cd_B_told 160 = .ok (.lreturn, 1) := by decide +kernel
theorem dc_B_told_161 : decode cd_B_told 161 = .ok (.new 57, 3) := by decide +kernel
theorem dc_B_told_164 : decode cd_B_told 164 = .ok (.dup, 1) := by decide +kernel
theorem dc_B_told_165 : decode cd_B_told 165 = .ok (.ldc 140, 2) := by decide +kernel
theorem dc_B_told_167 : decode cd_B_told 167 = .ok (.invokespecial 61, 3) := by decide +kernel
theorem dc_B_told_170 : decode cd_B_told 170 = .ok (.athrow, 1) := by decide +kernel
theorem dc_B_readUpTo_0 : decode cd_B_readUpTo 0 = .ok (.aload_n 0, 1) := by decide +kernel
theorem dc_B_readUpTo_1 : decode cd_B_readUpTo 1 = .ok (.getfield 10, 3) := by decide +kernel
theorem dc_B_readUpTo_4 : decode cd_B_readUpTo 4 = .ok (.bipush 27, 2) := by decide +kernel
theorem dc_B_readUpTo_6 : decode cd_B_readUpTo 6 = .ok (.bipush 8, 2) := by decide +kernel
theorem dc_B_readUpTo_8 : decode cd_B_readUpTo 8 = .ok (.invokevirtual 136, 3) := by decide +kernel
theorem dc_B_readUpTo_11 : decode cd_B_readUpTo 11 = .ok (.lstore_n 2, 1) := by decide +kernel
theorem dc_B_readUpTo_12 : decode cd_B_readUpTo 12 = .ok (.aload_n 0, 1) := by decide +kernel
theorem dc_B_readUpTo_13 : decode cd_B_readUpTo 13 = .ok (.getfield 28, 3) := by decide +kernel
theorem dc_B_readUpTo_16 : decode cd_B_readUpTo 16 = .ok (.invokevirtual 192, 3) := by decide +kernel
theorem dc_B_readUpTo_19 : decode cd_B_readUpTo 19 = .ok (.iconst 0, 1) := by decide +kernel
theorem dc_B_readUpTo_20 : decode cd_B_readUpTo 20 = .ok (.istore 4, 2) := by decide +kernel
theorem dc_B_readUpTo_22 : decode cd_B_readUpTo 22 = .ok (.iload 4, 2) := by decide +kernel
theorem dc_B_readUpTo_24 : decode cd_B_readUpTo 24 = .ok (.iload_n 1, 1) := by decide +kernel
theorem dc_B_readUpTo_25 : decode cd_B_readUpTo 25 = .ok (.if_icmp .gt 20, 3) := by decide +kernel
theorem dc_B_readUpTo_28 : decode cd_B_readUpTo 28 = .ok (.aload_n 0, 1) := by decide +kernel
theorem dc_B_readUpTo_29 : decode cd_B_readUpTo 29 = .ok (.getfield 28, 3) := by decide +kernel
theorem dc_B_readUpTo_32 : decode cd_B_readUpTo 32 = .ok (.iload 4, 2) := by decide +kernel
theorem dc_B_readUpTo_34 : decode cd_B_readUpTo 34 = .ok (.lload_n 2, 1) := by decide +kernel
theorem dc_B_readUpTo_35 : decode cd_B_readUpTo 35 = .ok (.invokevirtual 195, 3) := by decide +kernel
theorem dc_B_readUpTo_38 : decode cd_B_readUpTo 38 = .ok (.pop, 1) := by decide +kernel
theorem dc_B_readUpTo_39 : decode cd_B_readUpTo 39 = .ok (.iinc 4 1, 3) := by decide +kernel
theorem dc_B_readUpTo_42 : decode cd_B_readUpTo 42 = .ok (.goto (-20), 3) := by decide +kernel
theorem dc_B_readUpTo_45 : decode cd_B_readUpTo 45 = .ok (.return_, 1) := by decide +kernel
theorem dc_B_firstEight_0 : decode cd_B_firstEight 0 = .ok (.aload_n 0, 1) := by decide +kernel
theorem dc_B_firstEight_1 : decode cd_B_firstEight 1 = .ok (.getfield 10, 3) := by decide +kernel
theorem dc_B_firstEight_4 : decode cd_B_firstEight 4 = .ok (.aload_n 1, 1) := by decide +kernel
theorem dc_B_firstEight_5 : decode cd_B_firstEight 5 = .ok (.getfield 225, 3) := by decide +kernel
theorem dc_B_firstEight_8 : decode cd_B_firstEight 8 = .ok (.bipush 8, 2) := by decide +kernel
theorem dc_B_firstEight_10 : decode cd_B_firstEight 10 = .ok (.aload_n 1, 1) := by decide +kernel
theorem dc_B_firstEight_11 : decode cd_B_firstEight 11 = .ok (.getfield 158, 3) := by decide +kernel
theorem dc_B_firstEight_14 : decode cd_B_firstEight 14 = .ok (.iconst 0, 1) := by decide +kernel
theorem dc_B_firstEight_15 : decode cd_B_firstEight 15 = .ok (.invokestatic 226, 3) := by decide +kernel
theorem dc_B_firstEight_18 : decode cd_B_firstEight 18 = .ok (.invokestatic 229, 3) := by decide +kernel
theorem dc_B_firstEight_21 : decode cd_B_firstEight 21 = .ok (.invokevirtual 232, 3) := by decide +kernel
theorem dc_B_firstEight_24 : decode cd_B_firstEight 24 = .ok (.lreturn, 1) := by decide +kernel
theorem dc_M_init_0 : decode cd_M_init 0 = .ok (.aload_n 0, 1) := by decide +kernel
theorem dc_M_init_1 : decode cd_M_init 1 = .ok (.invokespecial 1, 3) := by decide +kernel
theorem dc_M_init_4 : decode cd_M_init 4 = .ok (.aload_n 0, 1) := by decide +kernel
theorem dc_M_init_5 : decode cd_M_init 5 = .ok (.sipush 16384, 3) := by decide +kernel
theorem dc_M_init_8 : decode cd_M_init 8 = .ok (.newarray .int, 2) := by decide +kernel
theorem dc_M_init_10 : decode cd_M_init 10 = .ok (.putfield 7, 3) := by decide +kernel
theorem dc_M_init_13 : decode cd_M_init 13 = .ok (.aload_n 0, 1) := by decide +kernel
theorem dc_M_init_14 : decode cd_M_init 14 = .ok (.sipush 1000, 3) := by decide +kernel
theorem dc_M_init_17 : decode cd_M_init 17 = .ok (.newarray .long, 2) := by decide +kernel
theorem dc_M_init_19 : decode cd_M_init 19 = .ok (.putfield 13, 3) := by decide +kernel
theorem dc_M_init_22 : decode cd_M_init 22 = .ok (.aload_n 0, 1) := by decide +kernel
theorem dc_M_init_23 : decode cd_M_init 23 = .ok (.sipush 1000, 3) := by decide +kernel
theorem dc_M_init_26 : decode cd_M_init 26 = .ok (.newarray .int, 2) := by decide +kernel
theorem dc_M_init_28 : decode cd_M_init 28 = .ok (.putfield 17, 3) := by decide +kernel
theorem dc_M_init_31 : decode cd_M_init 31 = .ok (.aload_n 0, 1) := by decide +kernel
theorem dc_M_init_32 : decode cd_M_init 32 = .ok (.sipush 1000, 3) := by decide +kernel
theorem dc_M_init_35 : decode cd_M_init 35 = .ok (.newarray .long, 2) := by decide +kernel
theorem dc_M_init_37 : decode cd_M_init 37 = .ok (.putfield 20, 3) := by decide +kernel
theorem dc_M_init_40 : decode cd_M_init 40 = .ok (.aload_n 0, 1) := by decide +kernel
theorem dc_M_init_41 : decode cd_M_init 41 = .ok (.sipush 1000, 3) := by decide +kernel
theorem dc_M_init_44 : decode cd_M_init 44 = .ok (.newarray .int, 2) := by decide +kernel
theorem dc_M_init_46 : decode cd_M_init 46 = .ok (.putfield 23, 3) := by decide +kernel
theorem dc_M_init_49 : decode cd_M_init 49 = .ok (.aload_n 0, 1) := by decide +kernel
theorem dc_M_init_50 : decode cd_M_init 50 = .ok (.sipush 1000, 3) := by decide +kernel
theorem dc_M_init_53 : decode cd_M_init 53 = .ok (.newarray .int, 2) := by decide +kernel
theorem dc_M_init_55 : decode cd_M_init 55 = .ok (.putfield 26, 3) := by decide +kernel
theorem dc_M_init_58 : decode cd_M_init 58 = .ok (.return_, 1) := by decide +kernel
theorem dc_M_thrown_0 : decode cd_M_thrown 0 = .ok (.aload_n 0, 1) := by decide +kernel
theorem dc_M_thrown_1 : decode cd_M_thrown 1 = .ok (.getfield 29, 3) := by decide +kernel
theorem dc_M_thrown_4 : decode cd_M_thrown 4 = .ok (.ireturn, 1) := by decide +kernel
theorem dc_M_feed_0 : decode cd_M_feed 0 = .ok (.aload_n 0, 1) := by decide +kernel
theorem dc_M_feed_1 : decode cd_M_feed 1 = .ok (.aload_n 0, 1) := by decide +kernel
theorem dc_M_feed_2 : decode cd_M_feed 2 = .ok (.getfield 33, 3) := by decide +kernel
theorem dc_M_feed_5 : decode cd_M_feed 5 = .ok (.bipush 20, 2) := by decide +kernel
theorem dc_M_feed_7 : decode cd_M_feed 7 = .ok (.iadd, 1) := by decide +kernel
theorem dc_M_feed_8 : decode cd_M_feed 8 = .ok (.sipush 16384, 3) := by decide +kernel
theorem dc_M_feed_11 : decode cd_M_feed 11 = .ok (.if_icmp .le 7, 3) := by decide +kernel
theorem dc_M_feed_14 : decode cd_M_feed 14 = .ok (.iconst 1, 1) := by decide +kernel
theorem dc_M_feed_15 : decode cd_M_feed 15 = .ok (.goto 4, 3) := by decide +kernel
theorem dc_M_feed_18 : decode cd_M_feed 18 = .ok (.iconst 0, 1) := by decide +kernel
theorem dc_M_feed_19 : decode cd_M_feed 19 = .ok (.putfield 29, 3) := by decide +kernel
theorem dc_M_feed_22 : decode cd_M_feed 22 = .ok (.aload_n 0, 1) := by decide +kernel
theorem dc_M_feed_23 : decode cd_M_feed 23 = .ok (.getfield 29, 3) := by decide +kernel
theorem dc_M_feed_26 : decode cd_M_feed 26 = .ok (.ifCond .le 5, 3) := by decide +kernel
theorem dc_M_feed_29 : decode cd_M_feed 29 = .ok (.iconst 0, 1) := by decide +kernel
theorem dc_M_feed_30 : decode cd_M_feed 30 = .ok (.ireturn, 1) := by decide +kernel
theorem dc_M_feed_31 : decode cd_M_feed 31 = .ok (.aload_n 0, 1) := by decide +kernel
theorem dc_M_feed_32 : decode cd_M_feed 32 = .ok (.iload_n 1, 1) := by decide +kernel
theorem dc_M_feed_33 : decode cd_M_feed 33 = .ok (.i2l, 1) := by decide +kernel
theorem dc_M_feed_34 : decode cd_M_feed 34 = .ok (.iconst 4, 1) := by decide +kernel
theorem dc_M_feed_35 : decode cd_M_feed 35 = .ok (.invokevirtual 36, 3) := by decide +kernel
theorem dc_M_feed_38 : decode cd_M_feed 38 = .ok (.aload_n 0, 1) := by decide +kernel
theorem dc_M_feed_39 : decode cd_M_feed 39 = .ok (.iload_n 2, 1) := by decide +kernel
theorem dc_M_feed_40 : decode cd_M_feed 40 = .ok (.i2l, 1) := by decide +kernel
theorem dc_M_feed_41 : decode cd_M_feed 41 = .ok (.iconst 4, 1) := by decide +kernel
theorem dc_M_feed_42 : decode cd_M_feed 42 = .ok (.invokevirtual 36, 3) := by decide +kernel
theorem dc_M_feed_45 : decode cd_M_feed 45 = .ok (.aload_n 0, 1) := by decide +kernel
theorem dc_M_feed_46 : decode cd_M_feed 46 = .ok (.iload_n 3, 1) := by decide +kernel
theorem dc_M_feed_47 : decode cd_M_feed 47 = .ok (.i2l, 1) := by decide +kernel
theorem dc_M_feed_48 : decode cd_M_feed 48 = .ok (.iconst 4, 1) := by decide +kernel
theorem dc_M_feed_49 : decode cd_M_feed 49 = .ok (.invokevirtual 36, 3) := by decide +kernel
theorem dc_M_feed_52 : decode cd_M_feed 52 = .ok (.aload_n 0, 1) := by decide +kernel
theorem dc_M_feed_53 : decode cd_M_feed 53 = .ok (.iload 4, 2) := by decide +kernel
theorem dc_M_feed_55 : decode cd_M_feed 55 = .ok (.i2l, 1) := by decide +kernel
theorem dc_M_feed_56 : decode cd_M_feed 56 = .ok (.iconst 4, 1) := by decide +kernel
theorem dc_M_feed_57 : decode cd_M_feed 57 = .ok (.invokevirtual 36, 3) := by decide +kernel
theorem dc_M_feed_60 : decode cd_M_feed 60 = .ok (.aload_n 0, 1) := by decide +kernel
theorem dc_M_feed_61 : decode cd_M_feed 61 = .ok (.iload 5, 2) := by decide +kernel
theorem dc_M_feed_63 : decode cd_M_feed 63 = .ok (.i2l, 1) := by decide +kernel
theorem dc_M_feed_64 : decode cd_M_feed 64 = .ok (.iconst 4, 1) := by decide +kernel
theorem dc_M_feed_65 : decode cd_M_feed 65 = .ok (.invokevirtual 36, 3) := by decide +kernel
theorem dc_M_feed_68 : decode cd_M_feed 68 = .ok (.aload_n 0, 1) := by decide +kernel
theorem dc_M_feed_69 : decode cd_M_feed 69 = .ok (.getfield 33, 3) := by decide +kernel
theorem dc_M_feed_72 : decode cd_M_feed 72 = .ok (.ireturn, 1) := by decide +kernel
theorem dc_M_put_0 : decode cd_M_put 0 = .ok (.iload_n 3, 1) := by decide +kernel
theorem dc_M_put_1 : decode cd_M_put 1 = .ok (.iconst 1, 1) := by decide +kernel
theorem dc_M_put_2 : decode cd_M_put 2 = .ok (.isub, 1) := by decide +kernel
theorem dc_M_put_3 : decode cd_M_put 3 = .ok (.istore 4, 2) := by decide +kernel
theorem dc_M_put_5 : decode cd_M_put 5 = .ok (.iload 4, 2) := by decide +kernel
theorem dc_M_put_7 : decode cd_M_put 7 = .ok (.ifCond .lt 40, 3) := by decide +kernel
theorem dc_M_put_10 : decode cd_M_put 10 = .ok (.aload_n 0, 1) := by decide +kernel
theorem dc_M_put_11 : decode cd_M_put 11 = .ok (.getfield 7, 3) := by decide +kernel
theorem dc_M_put_14 : decode cd_M_put 14 = .ok (.aload_n 0, 1) := by decide +kernel
theorem dc_M_put_15 : decode cd_M_put 15 = .ok (.getfield 33, 3) := by decide +kernel
theorem dc_M_put_18 : decode cd_M_put 18 = .ok (.lload_n 1, 1) := by decide +kernel
theorem dc_M_put_19 : decode cd_M_put 19 = .ok (.bipush 8, 2) := by decide +kernel
theorem dc_M_put_21 : decode cd_M_put 21 = .ok (.iload 4, 2) := by decide +kernel
theorem dc_M_put_23 : decode cd_M_put 23 = .ok (.imul, 1) := by decide +kernel
theorem dc_M_put_24 : decode cd_M_put 24 = .ok (.lshr, 1) := by decide +kernel
theorem dc_M_put_25 : decode cd_M_put 25 = .ok (.l2i, 1) := by decide +kernel
theorem dc_M_put_26 : decode cd_M_put 26 = .ok (.sipush 255, 3) := by decide +kernel
theorem dc_M_put_29 : decode cd_M_put 29 = .ok (.iand, 1) := by decide +kernel
theorem dc_M_put_30 : decode cd_M_put 30 = .ok (.iastore, 1) := by decide +kernel
theorem dc_M_put_31 : decode cd_M_put 31 = .ok (.aload_n 0, 1) := by decide +kernel
theorem dc_M_put_32 : decode cd_M_put 32 = .ok (.dup, 1) := by decide +kernel
theorem dc_M_put_33 : decode cd_M_put 33 = .ok (.getfield 33, 3) := by decide +kernel
theorem dc_M_put_36 : decode cd_M_put 36 = .ok (.iconst 1, 1) := by decide +kernel
theorem dc_M_put_37 : decode cd_M_put 37 = .ok (.iadd, 1) := by decide +kernel
theorem dc_M_put_38 : decode cd_M_put 38 = .ok (.putfield 33, 3) := by decide +kernel
theorem dc_M_put_41 : decode cd_M_put 41 = .ok (.iinc 4 (-1), 3) := by decide +kernel
theorem dc_M_put_44 : decode cd_M_put 44 = .ok (.goto (-39), 3) := by decide +kernel
theorem dc_M_put_47 : decode cd_M_put 47 = .ok (.return_, 1) := by decide +kernel
theorem dc_M_trim_0 : decode cd_M_trim 0 = .ok (.aload_n 0, 1) := by decide +kernel
theorem dc_M_trim_1 : decode cd_M_trim 1 = .ok (.iload_n 1, 1) := by decide +kernel
theorem dc_M_trim_2 : decode cd_M_trim 2 = .ok (.ifCond .lt 11, 3) := by decide +kernel
theorem dc_M_trim_5 : decode cd_M_trim 5 = .ok (.iload_n 1, 1) := by decide +kernel
theorem dc_M_trim_6 : decode cd_M_trim 6 = .ok (.aload_n 0, 1) := by decide +kernel
theorem dc_M_trim_7 : decode cd_M_trim 7 = .ok (.getfield 33, 3) := by decide +kernel
theorem dc_M_trim_10 : decode cd_M_trim 10 = .ok (.if_icmp .le 7, 3) := by decide +kernel
theorem dc_M_trim_13 : decode cd_M_trim 13 = .ok (.iconst 1, 1) := by decide +kernel
theorem dc_M_trim_14 : decode cd_M_trim 14 = .ok (.goto 4, 3) := by decide +kernel
theorem dc_M_trim_17 : decode cd_M_trim 17 = .ok (.iconst 0, 1) := by decide +kernel
theorem dc_M_trim_18 : decode cd_M_trim 18 = .ok (.putfield 29, 3) := by decide +kernel
theorem dc_M_trim_21 : decode cd_M_trim 21 = .ok (.aload_n 0, 1) := by decide +kernel
theorem dc_M_trim_22 : decode cd_M_trim 22 = .ok (.getfield 29, 3) := by decide +kernel
theorem dc_M_trim_25 : decode cd_M_trim 25 = .ok (.ifCond .le 5, 3) := by decide +kernel
theorem dc_M_trim_28 : decode cd_M_trim 28 = .ok (.iconst 0, 1) := by decide +kernel
theorem dc_M_trim_29 : decode cd_M_trim 29 = .ok (.ireturn, 1) := by decide +kernel
theorem dc_M_trim_30 : decode cd_M_trim 30 = .ok (.aload_n 0, 1) := by decide +kernel
theorem dc_M_trim_31 : decode cd_M_trim 31 = .ok (.dup, 1) := by decide +kernel
theorem dc_M_trim_32 : decode cd_M_trim 32 = .ok (.getfield 33, 3) := by decide +kernel
theorem dc_M_trim_35 : decode cd_M_trim 35 = .ok (.iload_n 1, 1) := by decide +kernel
theorem dc_M_trim_36 : decode cd_M_trim 36 = .ok (.isub, 1) := by decide +kernel
theorem dc_M_trim_37 : decode cd_M_trim 37 = .ok (.putfield 33, 3) := by decide +kernel
theorem dc_M_trim_40 : decode cd_M_trim 40 = .ok (.aload_n 0, 1) := by decide +kernel
theorem dc_M_trim_41 : decode cd_M_trim 41 = .ok (.getfield 33, 3) := by decide +kernel
theorem dc_M_trim_44 : decode cd_M_trim 44 = .ok (.ireturn, 1) := by decide +kernel
theorem dc_M_spoil_0 : decode cd_M_spoil 0 = .ok (.aload_n 0, 1) := by decide +kernel
theorem dc_M_spoil_1 : decode cd_M_spoil 1 = .ok (.aload_n 0, 1) := by decide +kernel
theorem dc_M_spoil_2 : decode cd_M_spoil 2 = .ok (.iload_n 1, 1) := by decide +kernel
theorem dc_M_spoil_3 : decode cd_M_spoil 3 = .ok (.invokevirtual 40, 3) := by decide +kernel
theorem dc_M_spoil_6 : decode cd_M_spoil 6 = .ok (.ifCond .eq 14, 3) := by decide +kernel
theorem dc_M_spoil_9 : decode cd_M_spoil 9 = .ok (.iload_n 2, 1) := by decide +kernel
theorem dc_M_spoil_10 : decode cd_M_spoil 10 = .ok (.ifCond .lt 10, 3) := by decide +kernel
theorem dc_M_spoil_13 : decode cd_M_spoil 13 = .ok (.iload_n 2, 1) := by decide +kernel
theorem dc_M_spoil_14 : decode cd_M_spoil 14 = .ok (.sipush 255, 3) := by decide +kernel
theorem dc_M_spoil_17 : decode cd_M_spoil 17 = .ok (.if_icmp .le 7, 3) := by decide +kernel
theorem dc_M_spoil_20 : decode cd_M_spoil 20 = .ok (.iconst 1, 1) := by decide +kernel
theorem dc_M_spoil_21 : decode cd_M_spoil 21 = .ok (.goto 4, 3) := by decide +kernel
theorem dc_M_spoil_24 : decode cd_M_spoil 24 = .ok (.iconst 0, 1) := by decide +kernel
theorem dc_M_spoil_25 : decode cd_M_spoil 25 = .ok (.putfield 29, 3) := by decide +kernel
theorem dc_M_spoil_28 : decode cd_M_spoil 28 = .ok (.aload_n 0, 1) := by decide +kernel
theorem dc_M_spoil_29 : decode cd_M_spoil 29 = .ok (.getfield 29, 3) := by decide +kernel
theorem dc_M_spoil_32 : decode cd_M_spoil 32 = .ok (.ifCond .le 5, 3) := by decide +kernel
theorem dc_M_spoil_35 : decode cd_M_spoil 35 = .ok (.iconst 0, 1) := by decide +kernel
theorem dc_M_spoil_36 : decode cd_M_spoil 36 = .ok (.ireturn, 1) := by decide +kernel
theorem dc_M_spoil_37 : decode cd_M_spoil 37 = .ok (.aload_n 0, 1) := by decide +kernel
theorem dc_M_spoil_38 : decode cd_M_spoil 38 = .ok (.getfield 7, 3) := by decide +kernel
theorem dc_M_spoil_41 : decode cd_M_spoil 41 = .ok (.iload_n 1, 1) := by decide +kernel
theorem dc_M_spoil_42 : decode cd_M_spoil 42 = .ok (.dup2, 1) := by decide +kernel
theorem dc_M_spoil_43 : decode cd_M_spoil 43 = .ok (.iaload, 1) := by decide +kernel
theorem dc_M_spoil_44 : decode cd_M_spoil 44 = .ok (.iload_n 2, 1) := by decide +kernel
theorem dc_M_spoil_45 : decode cd_M_spoil 45 = .ok (.ixor, 1) := by decide +kernel
theorem dc_M_spoil_46 : decode cd_M_spoil 46 = .ok (.iastore, 1) := by decide +kernel
theorem dc_M_spoil_47 : decode cd_M_spoil 47 = .ok (.aload_n 0, 1) := by decide +kernel
theorem dc_M_spoil_48 : decode cd_M_spoil 48 = .ok (.getfield 7, 3) := by decide +kernel
theorem dc_M_spoil_51 : decode cd_M_spoil 51 = .ok (.iload_n 1, 1) := by decide +kernel
theorem dc_M_spoil_52 : decode cd_M_spoil 52 = .ok (.iaload, 1) := by decide +kernel
theorem dc_M_spoil_53 : decode cd_M_spoil 53 = .ok (.ireturn, 1) := by decide +kernel
theorem dc_M_isByte_0 : decode cd_M_isByte 0 = .ok (.iload_n 1, 1) := by decide +kernel
theorem dc_M_isByte_1 : decode cd_M_isByte 1 = .ok (.ifCond .lt 15, 3) := by decide +kernel
theorem dc_M_isByte_4 : decode cd_M_isByte 4 = .ok (.iload_n 1, 1) := by decide +kernel
theorem dc_M_isByte_5 : decode cd_M_isByte 5 = .ok (.aload_n 0, 1) := by decide +kernel
theorem dc_M_isByte_6 : decode cd_M_isByte 6 = .ok (.getfield 33, 3) := by decide +kernel
theorem dc_M_isByte_9 : decode cd_M_isByte 9 = .ok (.if_icmp .ge 7, 3) := by decide +kernel
theorem dc_M_isByte_12 : decode cd_M_isByte 12 = .ok (.iconst 1, 1) := by decide +kernel
theorem dc_M_isByte_13 : decode cd_M_isByte 13 = .ok (.goto 4, 3) := by decide +kernel
theorem dc_M_isByte_16 : decode cd_M_isByte 16 = .ok (.iconst 0, 1) := by decide +kernel
theorem dc_M_isByte_17 : decode cd_M_isByte 17 = .ok (.ireturn, 1) := by decide +kernel
theorem dc_M_size_0 : decode cd_M_size 0 = .ok (.aload_n 0, 1) := by decide +kernel
theorem dc_M_size_1 : decode cd_M_size 1 = .ok (.iconst 0, 1) := by decide +kernel
theorem dc_M_size_2 : decode cd_M_size 2 = .ok (.putfield 29, 3) := by decide +kernel
theorem dc_M_size_5 : decode cd_M_size 5 = .ok (.aload_n 0, 1) := by decide +kernel
theorem dc_M_size_6 : decode cd_M_size 6 = .ok (.getfield 33, 3) := by decide +kernel
theorem dc_M_size_9 : decode cd_M_size 9 = .ok (.ireturn, 1) := by decide +kernel
theorem dc_M_byteAt_0 : decode cd_M_byteAt 0 = .ok (.aload_n 0, 1) := by decide +kernel
theorem dc_M_byteAt_1 : decode cd_M_byteAt 1 = .ok (.aload_n 0, 1) := by decide +kernel
theorem dc_M_byteAt_2 : decode cd_M_byteAt 2 = .ok (.iload_n 1, 1) := by decide +kernel
theorem dc_M_byteAt_3 : decode cd_M_byteAt 3 = .ok (.invokevirtual 40, 3) := by decide +kernel
theorem dc_M_byteAt_6 : decode cd_M_byteAt 6 = .ok (.ifCond .eq 7, 3) := by decide +kernel
theorem dc_M_byteAt_9 : decode cd_M_byteAt 9 = .ok (.iconst 0, 1) := by decide +kernel
theorem dc_M_byteAt_10 : decode cd_M_byteAt 10 = .ok (.goto 4, 3) := by decide +kernel
theorem dc_M_byteAt_13 : decode cd_M_byteAt 13 = .ok (.iconst 1, 1) := by decide +kernel
theorem dc_M_byteAt_14 : decode cd_M_byteAt 14 = .ok (.putfield 29, 3) := by decide +kernel
theorem dc_M_byteAt_17 : decode cd_M_byteAt 17 = .ok (.aload_n 0, 1) := by decide +kernel
theorem dc_M_byteAt_18 : decode cd_M_byteAt 18 = .ok (.getfield 29, 3) := by decide +kernel
theorem dc_M_byteAt_21 : decode cd_M_byteAt 21 = .ok (.ifCond .le 7, 3) := by decide +kernel
theorem dc_M_byteAt_24 : decode cd_M_byteAt 24 = .ok (.iconst 0, 1) := by decide +kernel
theorem dc_M_byteAt_25 : decode cd_M_byteAt 25 = .ok (.goto 9, 3) := by decide +kernel
theorem dc_M_byteAt_28 : decode cd_M_byteAt 28 = .ok (.aload_n 0, 1) := by decide +kernel
theorem dc_M_byteAt_29 : decode cd_M_byteAt 29 = .ok (.getfield 7, 3) := by decide +kernel
theorem dc_M_byteAt_32 : decode cd_M_byteAt 32 = .ok (.iload_n 1, 1) := by decide +kernel
theorem dc_M_byteAt_33 : decode cd_M_byteAt 33 = .ok (.iaload, 1) := by decide +kernel
theorem dc_M_byteAt_34 : decode cd_M_byteAt 34 = .ok (.ireturn, 1) := by decide +kernel
theorem dc_M_check_0 : decode cd_M_check 0 = .ok (.aload_n 0, 1) := by decide +kernel
theorem dc_M_check_1 : decode cd_M_check 1 = .ok (.iconst 0, 1) := by decide +kernel
theorem dc_M_check_2 : decode cd_M_check 2 = .ok (.putfield 29, 3) := by decide +kernel
theorem dc_M_check_5 : decode cd_M_check 5 = .ok (.aload_n 0, 1) := by decide +kernel
theorem dc_M_check_6 : decode cd_M_check 6 = .ok (.getfield 33, 3) := by decide +kernel
theorem dc_M_check_9 : decode cd_M_check 9 = .ok (.bipush 61, 2) := by decide +kernel
theorem dc_M_check_11 : decode cd_M_check 11 = .ok (.if_icmp .ge 5, 3) := by decide +kernel
theorem dc_M_check_14 : decode cd_M_check 14 = .ok (.iconst (-1), 1) := by decide +kernel
theorem dc_M_check_15 : decode cd_M_check 15 = .ok (.ireturn, 1) := by decide +kernel
theorem dc_M_check_16 : decode cd_M_check 16 = .ok (.aload_n 0, 1) := by decide +kernel
theorem dc_M_check_17 : decode cd_M_check 17 = .ok (.bipush 21, 2) := by decide +kernel
theorem dc_M_check_19 : decode cd_M_check 19 = .ok (.aload_n 0, 1) := by decide +kernel
theorem dc_M_check_20 : decode cd_M_check 20 = .ok (.getfield 33, 3) := by decide +kernel
theorem dc_M_check_23 : decode cd_M_check 23 = .ok (.invokevirtual 48, 3) := by decide +kernel
theorem dc_M_check_26 : decode cd_M_check 26 = .ok (.lstore_n 1, 1) := by decide +kernel
theorem dc_M_check_27 : decode cd_M_check 27 = .ok (.aload_n 0, 1) := by decide +kernel
theorem dc_M_check_28 : decode cd_M_check 28 = .ok (.iconst 0, 1) := by decide +kernel
theorem dc_M_check_29 : decode cd_M_check 29 = .ok (.lload_n 1, 1) := by decide +kernel
theorem dc_M_check_30 : decode cd_M_check 30 = .ok (.invokevirtual 52, 3) := by decide +kernel
theorem dc_M_check_33 : decode cd_M_check 33 = .ok (.lload_n 1, 1) := by decide +kernel
theorem dc_M_check_34 : decode cd_M_check 34 = .ok (.l2i, 1) := by decide +kernel
theorem dc_M_check_35 : decode cd_M_check 35 = .ok (.ireturn, 1) := by decide +kernel
theorem dc_M_sum_0 : decode cd_M_sum 0 = .ok (.ldc2_w 44, 3) := by decide +kernel
theorem dc_M_sum_3 : decode cd_M_sum 3 = .ok (.lstore_n 3, 1) := by decide +kernel
theorem dc_M_sum_4 : decode cd_M_sum 4 = .ok (.iload_n 1, 1) := by decide +kernel
theorem dc_M_sum_5 : decode cd_M_sum 5 = .ok (.istore 5, 2) := by decide +kernel
theorem dc_M_sum_7 : decode cd_M_sum 7 = .ok (.iload 5, 2) := by decide +kernel
theorem dc_M_sum_9 : decode cd_M_sum 9 = .ok (.iload_n 2, 1) := by decide +kernel
theorem dc_M_sum_10 : decode cd_M_sum 10 = .ok (.if_icmp .ge 70, 3) := by decide +kernel
theorem dc_M_sum_13 : decode cd_M_sum 13 = .ok (.lload_n 3, 1) := by decide +kernel
theorem dc_M_sum_14 : decode cd_M_sum 14 = .ok (.aload_n 0, 1) := by decide +kernel
theorem dc_M_sum_15 : decode cd_M_sum 15 = .ok (.getfield 7, 3) := by decide +kernel
theorem dc_M_sum_18 : decode cd_M_sum 18 = .ok (.iload 5, 2) := by decide +kernel
theorem dc_M_sum_20 : decode cd_M_sum 20 = .ok (.iaload, 1) := by decide +kernel
theorem dc_M_sum_21 : decode cd_M_sum 21 = .ok (.i2l, 1) := by decide +kernel
theorem dc_M_sum_22 : decode cd_M_sum 22 = .ok (.lxor, 1) := by decide +kernel
theorem dc_M_sum_23 : decode cd_M_sum 23 = .ok (.lstore_n 3, 1) := by decide +kernel
theorem dc_M_sum_24 : decode cd_M_sum 24 = .ok (.iconst 0, 1) := by decide +kernel
theorem dc_M_sum_25 : decode cd_M_sum 25 = .ok (.istore 6, 2) := by decide +kernel
theorem dc_M_sum_27 : decode cd_M_sum 27 = .ok (.iload 6, 2) := by decide +kernel
theorem dc_M_sum_29 : decode cd_M_sum 29 = .ok (.bipush 8, 2) := by decide +kernel
theorem dc_M_sum_31 : decode cd_M_sum 31 = .ok (.if_icmp .ge 43, 3) := by decide +kernel
theorem dc_M_sum_34 : decode cd_M_sum 34 = .ok (.lload_n 3, 1) := by decide +kernel
theorem dc_M_sum_35 : decode cd_M_sum 35 = .ok (.lconst 1, 1) := by decide +kernel
theorem dc_M_sum_36 : decode cd_M_sum 36 = .ok (.land, 1) := by decide +kernel
theorem dc_M_sum_37 : decode cd_M_sum 37 = .ok (.lconst 1, 1) := by decide +kernel
theorem dc_M_sum_38 : decode cd_M_sum 38 = .ok (.lcmp, 1) := by decide +kernel
theorem dc_M_sum_39 : decode cd_M_sum 39 = .ok (.ifCond .ne 7, 3) := by decide +kernel
theorem dc_M_sum_42 : decode cd_M_sum 42 = .ok (.iconst 1, 1) := by decide +kernel
theorem dc_M_sum_43 : decode cd_M_sum 43 = .ok (.goto 4, 3) := by decide +kernel
theorem dc_M_sum_46 : decode cd_M_sum 46 = .ok (.iconst 0, 1) := by decide +kernel
theorem dc_M_sum_47 : decode cd_M_sum 47 = .ok (.istore 7, 2) := by decide +kernel
theorem dc_M_sum_49 : decode cd_M_sum 49 = .ok (.lload_n 3, 1) := by decide +kernel
theorem dc_M_sum_50 : decode cd_M_sum 50 = .ok (.iconst 1, 1) := by decide +kernel
theorem dc_M_sum_51 : decode cd_M_sum 51 = .ok (.lshr, 1) := by decide +kernel
theorem dc_M_sum_52 : decode cd_M_sum 52 = .ok (.lstore_n 3, 1) := by decide +kernel
theorem dc_M_sum_53 : decode cd_M_sum 53 = .ok (.lload_n 3, 1) := by decide +kernel
theorem dc_M_sum_54 : decode cd_M_sum 54 = .ok (.iload 7, 2) := by decide +kernel
theorem dc_M_sum_56 : decode cd_M_sum 56 = .ok (.ifCond .eq 9, 3) := by decide +kernel
theorem dc_M_sum_59 : decode cd_M_sum 59 = .ok (.ldc2_w 46, 3) := by decide +kernel
theorem dc_M_sum_62 : decode cd_M_sum 62 = .ok (.goto 4, 3) := by decide +kernel
theorem dc_M_sum_65 : decode cd_M_sum 65 = .ok (.lconst 0, 1) := by decide +kernel
theorem dc_M_sum_66 : decode cd_M_sum 66 = .ok (.lxor, 1) := by decide +kernel
theorem dc_M_sum_67 : decode cd_M_sum 67 = .ok (.lstore_n 3, 1) := by decide +kernel
theorem dc_M_sum_68 : decode cd_M_sum 68 = .ok (.iinc 6 1, 3) := by decide +kernel
theorem dc_M_sum_71 : decode cd_M_sum 71 = .ok (.goto (-44), 3) := by decide +kernel
theorem dc_M_sum_74 : decode cd_M_sum 74 = .ok (.iinc 5 1, 3) := by decide +kernel
theorem dc_M_sum_77 : decode cd_M_sum 77 = .ok (.goto (-70), 3) := by decide +kernel
theorem dc_M_sum_80 : decode cd_M_sum 80 = .ok (.lload_n 3, 1) := by decide +kernel
theorem dc_M_sum_81 : decode cd_M_sum 81 = .ok (.ldc2_w 44, 3) := by decide +kernel
theorem dc_M_sum_84 : decode cd_M_sum 84 = .ok (.lxor, 1) := by decide +kernel
theorem dc_M_sum_85 : decode cd_M_sum 85 = .ok (.lreturn, 1) := by decide +kernel
theorem dc_M_putSum_0 : decode cd_M_putSum 0 = .ok (.iconst 0, 1) := by decide +kernel
theorem dc_M_putSum_1 : decode cd_M_putSum 1 = .ok (.istore 4, 2) := by decide +kernel
theorem dc_M_putSum_3 : decode cd_M_putSum 3 = .ok (.iload 4, 2) := by decide +kernel
theorem dc_M_putSum_5 : decode cd_M_putSum 5 = .ok (.iconst 4, 1) := by decide +kernel
theorem dc_M_putSum_6 : decode cd_M_putSum 6 = .ok (.if_icmp .ge 36, 3) := by decide +kernel
theorem dc_M_putSum_9 : decode cd_M_putSum 9 = .ok (.aload_n 0, 1) := by decide +kernel
theorem dc_M_putSum_10 : decode cd_M_putSum 10 = .ok (.getfield 7, 3) := by decide +kernel
theorem dc_M_putSum_13 : decode cd_M_putSum 13 = .ok (.iload_n 1, 1) := by decide +kernel
theorem dc_M_putSum_14 : decode cd_M_putSum 14 = .ok (.bipush 17, 2) := by decide +kernel
theorem dc_M_putSum_16 : decode cd_M_putSum 16 = .ok (.iadd, 1) := by decide +kernel
theorem dc_M_putSum_17 : decode cd_M_putSum 17 = .ok (.iload 4, 2) := by decide +kernel
theorem dc_M_putSum_19 : decode cd_M_putSum 19 = .ok (.iadd, 1) := by decide +kernel
theorem dc_M_putSum_20 : decode cd_M_putSum 20 = .ok (.lload_n 2, 1) := by decide +kernel
theorem dc_M_putSum_21 : decode cd_M_putSum 21 = .ok (.bipush 24, 2) := by decide +kernel
theorem dc_M_putSum_23 : decode cd_M_putSum 23 = .ok (.bipush 8, 2) := by decide +kernel
theorem dc_M_putSum_25 : decode cd_M_putSum 25 = .ok (.iload 4, 2) := by decide +kernel
theorem dc_M_putSum_27 : decode cd_M_putSum 27 = .ok (.imul, 1) := by decide +kernel
theorem dc_M_putSum_28 : decode cd_M_putSum 28 = .ok (.isub, 1) := by decide +kernel
theorem dc_M_putSum_29 : decode cd_M_putSum 29 = .ok (.lshr, 1) := by decide +kernel
theorem dc_M_putSum_30 : decode cd_M_putSum 30 = .ok (.l2i, 1) := by decide +kernel
theorem dc_M_putSum_31 : decode cd_M_putSum 31 = .ok (.sipush 255, 3) := by decide +kernel
theorem dc_M_putSum_34 : decode cd_M_putSum 34 = .ok (.iand, 1) := by decide +kernel
theorem dc_M_putSum_35 : decode cd_M_putSum 35 = .ok (.iastore, 1) := by decide +kernel
theorem dc_M_putSum_36 : decode cd_M_putSum 36 = .ok (.iinc 4 1, 3) := by decide +kernel
theorem dc_M_putSum_39 : decode cd_M_putSum 39 = .ok (.goto (-36), 3) := by decide +kernel
theorem dc_M_putSum_42 : decode cd_M_putSum 42 = .ok (.return_, 1) := by decide +kernel
theorem dc_M_record_0 : decode cd_M_record 0 = .ok (.aload_n 0, 1) := by decide +kernel
theorem dc_M_record_1 : decode cd_M_record 1 = .ok (.iload_n 1, 1) := by decide +kernel
theorem dc_M_record_2 : decode cd_M_record 2 = .ok (.iconst 1, 1) := by decide +kernel
theorem dc_M_record_3 : decode cd_M_record 3 = .ok (.if_icmp .lt 48, 3) := by decide +kernel
theorem dc_M_record_6 : decode cd_M_record 6 = .ok (.iload_n 1, 1) := by decide +kernel
theorem dc_M_record_7 : decode cd_M_record 7 = .ok (.bipush 100, 2) := by decide +kernel
theorem dc_M_record_9 : decode cd_M_record 9 = .ok (.if_icmp .gt 42, 3) := by decide +kernel
theorem dc_M_record_12 : decode cd_M_record 12 = .ok (.iload 4, 2) := by decide +kernel
theorem dc_M_record_14 : decode cd_M_record 14 = .ok (.iconst (-1), 1) := by decide +kernel
theorem dc_M_record_15 : decode cd_M_record 15 = .ok (.if_icmp .lt 36, 3) := by decide +kernel
theorem dc_M_record_18 : decode cd_M_record 18 = .ok (.iload 4, 2) := by decide +kernel
theorem dc_M_record_20 : decode cd_M_record 20 = .ok (.bipush 8, 2) := by decide +kernel
theorem dc_M_record_22 : decode cd_M_record 22 = .ok (.if_icmp .gt 29, 3) := by decide +kernel
theorem dc_M_record_25 : decode cd_M_record 25 = .ok (.iload 7, 2) := by decide +kernel
theorem dc_M_record_27 : decode cd_M_record 27 = .ok (.iconst (-1), 1) := by decide +kernel
theorem dc_M_record_28 : decode cd_M_record 28 = .ok (.if_icmp .lt 23, 3) := by decide +kernel
theorem dc_M_record_31 : decode cd_M_record 31 = .ok (.iload 7, 2) := by decide +kernel
theorem dc_M_record_33 : decode cd_M_record 33 = .ok (.sipush 300, 3) := by decide +kernel
theorem dc_M_record_36 : decode cd_M_record 36 = .ok (.if_icmp .gt 15, 3) := by decide +kernel
theorem dc_M_record_39 : decode cd_M_record 39 = .ok (.iload 8, 2) := by decide +kernel
theorem dc_M_record_41 : decode cd_M_record 41 = .ok (.ifCond .lt 10, 3) := by decide +kernel
theorem dc_M_record_44 : decode cd_M_record 44 = .ok (.iload 8, 2) := by decide +kernel
theorem dc_M_record_46 : decode cd_M_record 46 = .ok (.ldc 73, 2) := by decide +kernel
theorem dc_M_record_48 : decode cd_M_record 48 = .ok (.if_icmp .le 7, 3) := by decide +kernel
theorem dc_M_record_51 : decode cd_M_record 51 = .ok (.iconst 1, 1) := by decide +kernel
theorem dc_M_record_52 : decode cd_M_record 52 = .ok (.goto 20, 3) := by decide +kernel
theorem dc_M_record_55 : decode cd_M_record 55 = .ok (.aload_n 0, 1) := by decide +kernel
theorem dc_M_record_56 : decode cd_M_record 56 = .ok (.getfield 66, 3) := by decide +kernel
theorem dc_M_record_59 : decode cd_M_record 59 = .ok (.iload_n 1, 1) := by decide +kernel
theorem dc_M_record_60 : decode cd_M_record 60 = .ok (.iadd, 1) := by decide +kernel
theorem dc_M_record_61 : decode cd_M_record 61 = .ok (.sipush 1000, 3) := by decide +kernel
theorem dc_M_record_64 : decode cd_M_record 64 = .ok (.if_icmp .le 7, 3) := by decide +kernel
theorem dc_M_record_67 : decode cd_M_record 67 = .ok (.iconst 2, 1) := by decide +kernel
theorem dc_M_record_68 : decode cd_M_record 68 = .ok (.goto 4, 3) := by decide +kernel
theorem dc_M_record_71 : decode cd_M_record 71 = .ok (.iconst 0, 1) := by decide +kernel
theorem dc_M_record_72 : decode cd_M_record 72 = .ok (.putfield 29, 3) := by decide +kernel
theorem dc_M_record_75 : decode cd_M_record 75 = .ok (.aload_n 0, 1) := by decide +kernel
theorem dc_M_record_76 : decode cd_M_record 76 = .ok (.getfield 29, 3) := by decide +kernel
theorem dc_M_record_79 : decode cd_M_record 79 = .ok (.ifCond .le 5, 3) := by decide +kernel
theorem dc_M_record_82 : decode cd_M_record 82 = .ok (.iconst 0, 1) := by decide +kernel
theorem dc_M_record_83 : decode cd_M_record 83 = .ok (.ireturn, 1) := by decide +kernel
theorem dc_M_record_84 : decode cd_M_record 84 = .ok (.aload_n 0, 1) := by decide +kernel
theorem dc_M_record_85 : decode cd_M_record 85 = .ok (.getfield 66, 3) := by decide +kernel
theorem dc_M_record_88 : decode cd_M_record 88 = .ok (.istore 9, 2) := by decide +kernel
theorem dc_M_record_90 : decode cd_M_record 90 = .ok (.iconst 0, 1) := by decide +kernel
theorem dc_M_record_91 : decode cd_M_record 91 = .ok (.istore 10, 2) := by decide +kernel
theorem dc_M_record_93 : decode cd_M_record 93 = .ok (.iload 10, 2) := by decide +kernel
theorem dc_M_record_95 : decode cd_M_record 95 = .ok (.iload_n 1, 1) := by decide +kernel
theorem dc_M_record_96 : decode cd_M_record 96 = .ok (.if_icmp .ge 84, 3) := by decide +kernel
theorem dc_M_record_99 : decode cd_M_record 99 = .ok (.aload_n 0, 1) := by decide +kernel
theorem dc_M_record_100 : decode cd_M_record 100 = .ok (.getfield 13, 3) := by decide +kernel
theorem dc_M_record_103 : decode cd_M_record 103 = .ok (.aload_n 0, 1) := by decide +kernel
theorem dc_M_record_104 : decode cd_M_record 104 = .ok (.getfield 66, 3) := by decide +kernel
theorem dc_M_record_107 : decode cd_M_record 107 = .ok (.lload_n 2, 1) := by decide +kernel
theorem dc_M_record_108 : decode cd_M_record 108 = .ok (.iload 10, 2) := by decide +kernel
theorem dc_M_record_110 : decode cd_M_record 110 = .ok (.i2l, 1) := by decide +kernel
theorem dc_M_record_111 : decode cd_M_record 111 = .ok (.ladd, 1) := by decide +kernel
theorem dc_M_record_112 : decode cd_M_record 112 = .ok (.lastore, 1) := by decide +kernel
theorem dc_M_record_113 : decode cd_M_record 113 = .ok (.aload_n 0, 1) := by decide +kernel
theorem dc_M_record_114 : decode cd_M_record 114 = .ok (.getfield 17, 3) := by decide +kernel
theorem dc_M_record_117 : decode cd_M_record 117 = .ok (.aload_n 0, 1) := by decide +kernel
theorem dc_M_record_118 : decode cd_M_record 118 = .ok (.getfield 66, 3) := by decide +kernel
theorem dc_M_record_121 : decode cd_M_record 121 = .ok (.iload 4, 2) := by decide +kernel
theorem dc_M_record_123 : decode cd_M_record 123 = .ok (.iastore, 1) := by decide +kernel
theorem dc_M_record_124 : decode cd_M_record 124 = .ok (.aload_n 0, 1) := by decide +kernel
theorem dc_M_record_125 : decode cd_M_record 125 = .ok (.getfield 20, 3) := by decide +kernel
theorem dc_M_record_128 : decode cd_M_record 128 = .ok (.aload_n 0, 1) := by decide +kernel
theorem dc_M_record_129 : decode cd_M_record 129 = .ok (.getfield 66, 3) := by decide +kernel
theorem dc_M_record_132 : decode cd_M_record 132 = .ok (.lload 5, 2) := by decide +kernel
theorem dc_M_record_134 : decode cd_M_record 134 = .ok (.iload 10, 2) := by decide +kernel
theorem dc_M_record_136 : decode cd_M_record 136 = .ok (.i2l, 1) := by decide +kernel
theorem dc_M_record_137 : decode cd_M_record 137 = .ok (.ladd, 1) := by decide +kernel
theorem dc_M_record_138 : decode cd_M_record 138 = .ok (.lastore, 1) := by decide +kernel
theorem dc_M_record_139 : decode cd_M_record 139 = .ok (.aload_n 0, 1) := by decide +kernel
theorem dc_M_record_140 : decode cd_M_record 140 = .ok (.getfield 23, 3) := by decide +kernel
theorem dc_M_record_143 : decode cd_M_record 143 = .ok (.aload_n 0, 1) := by decide +kernel
theorem dc_M_record_144 : decode cd_M_record 144 = .ok (.getfield 66, 3) := by decide +kernel
theorem dc_M_record_147 : decode cd_M_record 147 = .ok (.iload 7, 2) := by decide +kernel
theorem dc_M_record_149 : decode cd_M_record 149 = .ok (.iastore, 1) := by decide +kernel
theorem dc_M_record_150 : decode cd_M_record 150 = .ok (.aload_n 0, 1) := by decide +kernel
theorem dc_M_record_151 : decode cd_M_record 151 = .ok (.getfield 26, 3) := by decide +kernel
theorem dc_M_record_154 : decode cd_M_record 154 = .ok (.aload_n 0, 1) := by decide +kernel
theorem dc_M_record_155 : decode cd_M_record 155 = .ok (.getfield 66, 3) := by decide +kernel
theorem dc_M_record_158 : decode cd_M_record 158 = .ok (.iload 8, 2) := by decide +kernel
theorem dc_M_record_160 : decode cd_M_record 160 = .ok (.iload 10, 2) := by decide +kernel
theorem dc_M_record_162 : decode cd_M_record 162 = .ok (.iadd, 1) := by decide +kernel
theorem dc_M_record_163 : decode cd_M_record 163 = .ok (.iastore, 1) := by decide +kernel
theorem dc_M_record_164 : decode cd_M_record 164 = .ok (.aload_n 0, 1) := by decide +kernel
theorem dc_M_record_165 : decode cd_M_record 165 = .ok (.dup, 1) := by decide +kernel
theorem dc_M_record_166 : decode cd_M_record 166 = .ok (.getfield 66, 3) := by decide +kernel
theorem dc_M_record_169 : decode cd_M_record 169 = .ok (.iconst 1, 1) := by decide +kernel
theorem dc_M_record_170 : decode cd_M_record 170 = .ok (.iadd, 1) := by decide +kernel
theorem dc_M_record_171 : decode cd_M_record 171 = .ok (.putfield 66, 3) := by decide +kernel
theorem dc_M_record_174 : decode cd_M_record 174 = .ok (.iinc 10 1, 3) := by decide +kernel
theorem dc_M_record_177 : decode cd_M_record 177 = .ok (.goto (-84), 3) := by decide +kernel
theorem dc_M_record_180 : decode cd_M_record 180 = .ok (.aload_n 0, 1) := by decide +kernel
theorem dc_M_record_181 : decode cd_M_record 181 = .ok (.invokevirtual 74, 3) := by decide +kernel
theorem dc_M_record_184 : decode cd_M_record 184 = .ok (.sipush 16000, 3) := by decide +kernel
theorem dc_M_record_187 : decode cd_M_record 187 = .ok (.if_icmp .le 16, 3) := by decide +kernel
theorem dc_M_record_190 : decode cd_M_record 190 = .ok (.aload_n 0, 1) := by decide +kernel
theorem dc_M_record_191 : decode cd_M_record 191 = .ok (.iload 9, 2) := by decide +kernel
theorem dc_M_record_193 : decode cd_M_record 193 = .ok (.putfield 66, 3) := by decide +kernel
theorem dc_M_record_196 : decode cd_M_record 196 = .ok (.aload_n 0, 1) := by decide +kernel
theorem dc_M_record_197 : decode cd_M_record 197 = .ok (.iconst 2, 1) := by decide +kernel
theorem dc_M_record_198 : decode cd_M_record 198 = .ok (.putfield 29, 3) := by decide +kernel
theorem dc_M_record_201 : decode cd_M_record 201 = .ok (.iconst 0, 1) := by decide +kernel
theorem dc_M_record_202 : decode cd_M_record 202 = .ok (.ireturn, 1) := by decide +kernel
theorem dc_M_record_203 : decode cd_M_record 203 = .ok (.aload_n 0, 1) := by decide +kernel
theorem dc_M_record_204 : decode cd_M_record 204 = .ok (.getfield 66, 3) := by decide +kernel
theorem dc_M_record_207 : decode cd_M_record 207 = .ok (.ireturn, 1) := by decide +kernel
theorem dc_M_weight_0 : decode cd_M_weight 0 = .ok (.iconst 0, 1) := by decide +kernel
theorem dc_M_weight_1 : decode cd_M_weight 1 = .ok (.istore_n 1, 1) := by decide +kernel
theorem dc_M_weight_2 : decode cd_M_weight 2 = .ok (.iconst 0, 1) := by decide +kernel
theorem dc_M_weight_3 : decode cd_M_weight 3 = .ok (.istore_n 2, 1) := by decide +kernel
theorem dc_M_weight_4 : decode cd_M_weight 4 = .ok (.iload_n 2, 1) := by decide +kernel
theorem dc_M_weight_5 : decode cd_M_weight 5 = .ok (.aload_n 0, 1) := by decide +kernel
theorem dc_M_weight_6 : decode cd_M_weight 6 = .ok (.getfield 66, 3) := by decide +kernel
theorem dc_M_weight_9 : decode cd_M_weight 9 = .ok (.if_icmp .ge 27, 3) := by decide +kernel
theorem dc_M_weight_12 : decode cd_M_weight 12 = .ok (.iload_n 1, 1) := by decide +kernel
theorem dc_M_weight_13 : decode cd_M_weight 13 = .ok (.aload_n 0, 1) := by decide +kernel
theorem dc_M_weight_14 : decode cd_M_weight 14 = .ok (.iload_n 2, 1) := by decide +kernel
theorem dc_M_weight_15 : decode cd_M_weight 15 = .ok (.invokevirtual 69, 3) := by decide +kernel
theorem dc_M_weight_18 : decode cd_M_weight 18 = .ok (.i2l, 1) := by decide +kernel
theorem dc_M_weight_19 : decode cd_M_weight 19 = .ok (.invokestatic 62, 3) := by decide +kernel
theorem dc_M_weight_22 : decode cd_M_weight 22 = .ok (.aload_n 0, 1) := by decide +kernel
theorem dc_M_weight_23 : decode cd_M_weight 23 = .ok (.iload_n 2, 1) := by decide +kernel
theorem dc_M_weight_24 : decode cd_M_weight 24 = .ok (.invokevirtual 69, 3) := by decide +kernel
theorem dc_M_weight_27 : decode cd_M_weight 27 = .ok (.iadd, 1) := by decide +kernel
theorem dc_M_weight_28 : decode cd_M_weight 28 = .ok (.iadd, 1) := by decide +kernel
theorem dc_M_weight_29 : decode cd_M_weight 29 = .ok (.istore_n 1, 1) := by decide +kernel
theorem dc_M_weight_30 : decode cd_M_weight 30 = .ok (.iinc 2 1, 3) := by decide +kernel
theorem dc_M_weight_33 : decode cd_M_weight 33 = .ok (.goto (-29), 3) := by decide +kernel
theorem dc_M_weight_36 : decode cd_M_weight 36 = .ok (.iload_n 1, 1) := by decide +kernel
theorem dc_M_weight_37 : decode cd_M_weight 37 = .ok (.ireturn, 1) := by decide +kernel
theorem dc_M_body_0 : decode cd_M_body 0 = .ok (.iconst 2, 1) := by decide +kernel
theorem dc_M_body_1 : decode cd_M_body 1 = .ok (.aload_n 0, 1) := by decide +kernel
theorem dc_M_body_2 : decode cd_M_body 2 = .ok (.getfield 26, 3) := by decide +kernel
theorem dc_M_body_5 : decode cd_M_body 5 = .ok (.iload_n 1, 1) := by decide +kernel
theorem dc_M_body_6 : decode cd_M_body 6 = .ok (.iaload, 1) := by decide +kernel
theorem dc_M_body_7 : decode cd_M_body 7 = .ok (.i2l, 1) := by decide +kernel
theorem dc_M_body_8 : decode cd_M_body 8 = .ok (.invokestatic 62, 3) := by decide +kernel
theorem dc_M_body_11 : decode cd_M_body 11 = .ok (.iadd, 1) := by decide +kernel
theorem dc_M_body_12 : decode cd_M_body 12 = .ok (.iload_n 1, 1) := by decide +kernel
theorem dc_M_body_13 : decode cd_M_body 13 = .ok (.i2l, 1) := by decide +kernel
theorem dc_M_body_14 : decode cd_M_body 14 = .ok (.invokestatic 62, 3) := by decide +kernel
theorem dc_M_body_17 : decode cd_M_body 17 = .ok (.iadd, 1) := by decide +kernel
theorem dc_M_body_18 : decode cd_M_body 18 = .ok (.aload_n 0, 1) := by decide +kernel
theorem dc_M_body_19 : decode cd_M_body 19 = .ok (.getfield 17, 3) := by decide +kernel
theorem dc_M_body_22 : decode cd_M_body 22 = .ok (.iload_n 1, 1) := by decide +kernel
theorem dc_M_body_23 : decode cd_M_body 23 = .ok (.iaload, 1) := by decide +kernel
theorem dc_M_body_24 : decode cd_M_body 24 = .ok (.i2l, 1) := by decide +kernel
theorem dc_M_body_25 : decode cd_M_body 25 = .ok (.invokestatic 62, 3) := by decide +kernel
theorem dc_M_body_28 : decode cd_M_body 28 = .ok (.iadd, 1) := by decide +kernel
theorem dc_M_body_29 : decode cd_M_body 29 = .ok (.aload_n 0, 1) := by decide +kernel
theorem dc_M_body_30 : decode cd_M_body 30 = .ok (.getfield 23, 3) := by decide +kernel
theorem dc_M_body_33 : decode cd_M_body 33 = .ok (.iload_n 1, 1) := by decide +kernel
theorem dc_M_body_34 : decode cd_M_body 34 = .ok (.iaload, 1) := by decide +kernel
theorem dc_M_body_35 : decode cd_M_body 35 = .ok (.i2l, 1) := by decide +kernel
theorem dc_M_body_36 : decode cd_M_body 36 = .ok (.invokestatic 62, 3) := by decide +kernel
theorem dc_M_body_39 : decode cd_M_body 39 = .ok (.iadd, 1) := by decide +kernel
theorem dc_M_body_40 : decode cd_M_body 40 = .ok (.istore_n 2, 1) := by decide +kernel
theorem dc_M_body_41 : decode cd_M_body 41 = .ok (.iload_n 2, 1) := by decide +kernel
theorem dc_M_body_42 : decode cd_M_body 42 = .ok (.aload_n 0, 1) := by decide +kernel
theorem dc_M_body_43 : decode cd_M_body 43 = .ok (.getfield 17, 3) := by decide +kernel
theorem dc_M_body_46 : decode cd_M_body 46 = .ok (.iload_n 1, 1) := by decide +kernel
theorem dc_M_body_47 : decode cd_M_body 47 = .ok (.iaload, 1) := by decide +kernel
theorem dc_M_body_48 : decode cd_M_body 48 = .ok (.ifCond .le 12, 3) := by decide +kernel
theorem dc_M_body_51 : decode cd_M_body 51 = .ok (.aload_n 0, 1) := by decide +kernel
theorem dc_M_body_52 : decode cd_M_body 52 = .ok (.getfield 17, 3) := by decide +kernel
theorem dc_M_body_55 : decode cd_M_body 55 = .ok (.iload_n 1, 1) := by decide +kernel
theorem dc_M_body_56 : decode cd_M_body 56 = .ok (.iaload, 1) := by decide +kernel
theorem dc_M_body_57 : decode cd_M_body 57 = .ok (.goto 4, 3) := by decide +kernel
theorem dc_M_body_60 : decode cd_M_body 60 = .ok (.iconst 0, 1) := by decide +kernel
theorem dc_M_body_61 : decode cd_M_body 61 = .ok (.iadd, 1) := by decide +kernel
theorem dc_M_body_62 : decode cd_M_body 62 = .ok (.istore_n 2, 1) := by decide +kernel
theorem dc_M_body_63 : decode cd_M_body 63 = .ok (.iload_n 2, 1) := by decide +kernel
theorem dc_M_body_64 : decode cd_M_body 64 = .ok (.aload_n 0, 1) := by decide +kernel
theorem dc_M_body_65 : decode cd_M_body 65 = .ok (.getfield 23, 3) := by decide +kernel
theorem dc_M_body_68 : decode cd_M_body 68 = .ok (.iload_n 1, 1) := by decide +kernel
theorem dc_M_body_69 : decode cd_M_body 69 = .ok (.iaload, 1) := by decide +kernel
theorem dc_M_body_70 : decode cd_M_body 70 = .ok (.ifCond .le 12, 3) := by decide +kernel
theorem dc_M_body_73 : decode cd_M_body 73 = .ok (.aload_n 0, 1) := by decide +kernel
theorem dc_M_body_74 : decode cd_M_body 74 = .ok (.getfield 23, 3) := by decide +kernel
theorem dc_M_body_77 : decode cd_M_body 77 = .ok (.iload_n 1, 1) := by decide +kernel
theorem dc_M_body_78 : decode cd_M_body 78 = .ok (.iaload, 1) := by decide +kernel
theorem dc_M_body_79 : decode cd_M_body 79 = .ok (.goto 4, 3) := by decide +kernel
theorem dc_M_body_82 : decode cd_M_body 82 = .ok (.iconst 0, 1) := by decide +kernel
theorem dc_M_body_83 : decode cd_M_body 83 = .ok (.iadd, 1) := by decide +kernel
theorem dc_M_body_84 : decode cd_M_body 84 = .ok (.ireturn, 1) := by decide +kernel
theorem dc_M_width_0 : decode cd_M_width 0 = .ok (.lload_n 0, 1) := by decide +kernel
theorem dc_M_width_1 : decode cd_M_width 1 = .ok (.lconst 0, 1) := by decide +kernel
theorem dc_M_width_2 : decode cd_M_width 2 = .ok (.lcmp, 1) := by decide +kernel
theorem dc_M_width_3 : decode cd_M_width 3 = .ok (.ifCond .ge 13, 3) := by decide +kernel
theorem dc_M_width_6 : decode cd_M_width 6 = .ok (.ldc2_w 56, 3) := by decide +kernel
theorem dc_M_width_9 : decode cd_M_width 9 = .ok (.lload_n 0, 1) := by decide +kernel
theorem dc_M_width_10 : decode cd_M_width 10 = .ok (.lmul, 1) := by decide +kernel
theorem dc_M_width_11 : decode cd_M_width 11 = .ok (.lconst 1, 1) := by decide +kernel
theorem dc_M_width_12 : decode cd_M_width 12 = .ok (.lsub, 1) := by decide +kernel
theorem dc_M_width_13 : decode cd_M_width 13 = .ok (.goto 8, 3) := by decide +kernel
theorem dc_M_width_16 : decode cd_M_width 16 = .ok (.ldc2_w 58, 3) := by decide +kernel
theorem dc_M_width_19 : decode cd_M_width 19 = .ok (.lload_n 0, 1) := by decide +kernel
theorem dc_M_width_20 : decode cd_M_width 20 = .ok (.lmul, 1) := by decide +kernel
theorem dc_M_width_21 : decode cd_M_width 21 = .ok (.lstore_n 2, 1) := by decide +kernel
theorem dc_M_width_22 : decode cd_M_width 22 = .ok (.iconst 1, 1) := by decide +kernel
theorem dc_M_width_23 : decode cd_M_width 23 = .ok (.istore 4, 2) := by decide +kernel
theorem dc_M_width_25 : decode cd_M_width 25 = .ok (.lload_n 2, 1) := by decide +kernel
theorem dc_M_width_26 : decode cd_M_width 26 = .ok (.lconst 0, 1) := by decide +kernel
theorem dc_M_width_27 : decode cd_M_width 27 = .ok (.lcmp, 1) := by decide +kernel
theorem dc_M_width_28 : decode cd_M_width 28 = .ok (.ifCond .lt 11, 3) := by decide +kernel
theorem dc_M_width_31 : decode cd_M_width 31 = .ok (.lload_n 2, 1) := by decide +kernel
theorem dc_M_width_32 : decode cd_M_width 32 = .ok (.ldc2_w 60, 3) := by decide +kernel
theorem dc_M_width_35 : decode cd_M_width 35 = .ok (.lcmp, 1) := by decide +kernel
theorem dc_M_width_36 : decode cd_M_width 36 = .ok (.ifCond .le 14, 3) := by decide +kernel
theorem dc_M_width_39 : decode cd_M_width 39 = .ok (.lload_n 2, 1) := by decide +kernel
theorem dc_M_width_40 : decode cd_M_width 40 = .ok (.bipush 7, 2) := by decide +kernel
theorem dc_M_width_42 : decode cd_M_width 42 = .ok (.lushr, 1) := by decide +kernel
theorem dc_M_width_43 : decode cd_M_width 43 = .ok (.lstore_n 2, 1) := by decide +kernel
theorem dc_M_width_44 : decode cd_M_width 44 = .ok (.iinc 4 1, 3) := by decide +kernel
theorem dc_M_width_47 : decode cd_M_width 47 = .ok (.goto (-22), 3) := by decide +kernel
theorem dc_M_width_50 : decode cd_M_width 50 = .ok (.iload 4, 2) := by decide +kernel
theorem dc_M_width_52 : decode cd_M_width 52 = .ok (.ireturn, 1) := by decide +kernel
theorem dc_M_clear_0 : decode cd_M_clear 0 = .ok (.aload_n 0, 1) := by decide +kernel
theorem dc_M_clear_1 : decode cd_M_clear 1 = .ok (.iconst 0, 1) := by decide +kernel
theorem dc_M_clear_2 : decode cd_M_clear 2 = .ok (.putfield 29, 3) := by decide +kernel
theorem dc_M_clear_5 : decode cd_M_clear 5 = .ok (.aload_n 0, 1) := by decide +kernel
theorem dc_M_clear_6 : decode cd_M_clear 6 = .ok (.getfield 66, 3) := by decide +kernel
theorem dc_M_clear_9 : decode cd_M_clear 9 = .ok (.istore_n 1, 1) := by decide +kernel
theorem dc_M_clear_10 : decode cd_M_clear 10 = .ok (.aload_n 0, 1) := by decide +kernel
theorem dc_M_clear_11 : decode cd_M_clear 11 = .ok (.iconst 0, 1) := by decide +kernel
theorem dc_M_clear_12 : decode cd_M_clear 12 = .ok (.putfield 66, 3) := by decide +kernel
theorem dc_M_clear_15 : decode cd_M_clear 15 = .ok (.iload_n 1, 1) := by decide +kernel
theorem dc_M_clear_16 : decode cd_M_clear 16 = .ok (.ireturn, 1) := by decide +kernel
theorem dc_M_seal_0 : decode cd_M_seal 0 = .ok (.aload_n 0, 1) := by decide +kernel
theorem dc_M_seal_1 : decode cd_M_seal 1 = .ok (.lload 5, 2) := by decide +kernel
theorem dc_M_seal_3 : decode cd_M_seal 3 = .ok (.lconst 0, 1) := by decide +kernel
theorem dc_M_seal_4 : decode cd_M_seal 4 = .ok (.lcmp, 1) := by decide +kernel
theorem dc_M_seal_5 : decode cd_M_seal 5 = .ok (.ifCond .lt 12, 3) := by decide +kernel
theorem dc_M_seal_8 : decode cd_M_seal 8 = .ok (.lload 5, 2) := by decide +kernel
theorem dc_M_seal_10 : decode cd_M_seal 10 = .ok (.ldc2_w 84, 3) := by decide +kernel
theorem dc_M_seal_13 : decode cd_M_seal 13 = .ok (.lcmp, 1) := by decide +kernel
theorem dc_M_seal_14 : decode cd_M_seal 14 = .ok (.ifCond .le 7, 3) := by decide +kernel
theorem dc_M_seal_17 : decode cd_M_seal 17 = .ok (.iconst 1, 1) := by decide +kernel
theorem dc_M_seal_18 : decode cd_M_seal 18 = .ok (.goto 26, 3) := by decide +kernel
theorem dc_M_seal_21 : decode cd_M_seal 21 = .ok (.aload_n 0, 1) := by decide +kernel
theorem dc_M_seal_22 : decode cd_M_seal 22 = .ok (.getfield 33, 3) := by decide +kernel
theorem dc_M_seal_25 : decode cd_M_seal 25 = .ok (.bipush 61, 2) := by decide +kernel
theorem dc_M_seal_27 : decode cd_M_seal 27 = .ok (.iadd, 1) := by decide +kernel
theorem dc_M_seal_28 : decode cd_M_seal 28 = .ok (.aload_n 0, 1) := by decide +kernel
theorem dc_M_seal_29 : decode cd_M_seal 29 = .ok (.invokevirtual 74, 3) := by decide +kernel
theorem dc_M_seal_32 : decode cd_M_seal 32 = .ok (.iadd, 1) := by decide +kernel
theorem dc_M_seal_33 : decode cd_M_seal 33 = .ok (.sipush 16384, 3) := by decide +kernel
theorem dc_M_seal_36 : decode cd_M_seal 36 = .ok (.if_icmp .le 7, 3) := by decide +kernel
theorem dc_M_seal_39 : decode cd_M_seal 39 = .ok (.iconst 2, 1) := by decide +kernel
theorem dc_M_seal_40 : decode cd_M_seal 40 = .ok (.goto 4, 3) := by decide +kernel
theorem dc_M_seal_43 : decode cd_M_seal 43 = .ok (.iconst 0, 1) := by decide +kernel
theorem dc_M_seal_44 : decode cd_M_seal 44 = .ok (.putfield 29, 3) := by decide +kernel
theorem dc_M_seal_47 : decode cd_M_seal 47 = .ok (.aload_n 0, 1) := by decide +kernel
theorem dc_M_seal_48 : decode cd_M_seal 48 = .ok (.getfield 29, 3) := by decide +kernel
theorem dc_M_seal_51 : decode cd_M_seal 51 = .ok (.ifCond .le 5, 3) := by decide +kernel
theorem dc_M_seal_54 : decode cd_M_seal 54 = .ok (.iconst 0, 1) := by decide +kernel
theorem dc_M_seal_55 : decode cd_M_seal 55 = .ok (.ireturn, 1) := by decide +kernel
theorem dc_M_seal_56 : decode cd_M_seal 56 = .ok (.aload_n 0, 1) := by decide +kernel
theorem dc_M_seal_57 : decode cd_M_seal 57 = .ok (.getfield 33, 3) := by decide +kernel
theorem dc_M_seal_60 : decode cd_M_seal 60 = .ok (.istore 7, 2) := by decide +kernel
theorem dc_M_seal_62 : decode cd_M_seal 62 = .ok (.lconst 0, 1) := by decide +kernel
theorem dc_M_seal_63 : decode cd_M_seal 63 = .ok (.lstore 8, 2) := by decide +kernel
theorem dc_M_seal_65 : decode cd_M_seal 65 = .ok (.iconst 0, 1) := by decide +kernel
theorem dc_M_seal_66 : decode cd_M_seal 66 = .ok (.istore 10, 2) := by decide +kernel
theorem dc_M_seal_68 : decode cd_M_seal 68 = .ok (.iload 10, 2) := by decide +kernel
theorem dc_M_seal_70 : decode cd_M_seal 70 = .ok (.aload_n 0, 1) := by decide +kernel
theorem dc_M_seal_71 : decode cd_M_seal 71 = .ok (.getfield 66, 3) := by decide +kernel
theorem dc_M_seal_74 : decode cd_M_seal 74 = .ok (.if_icmp .ge 44, 3) := by decide +kernel
theorem dc_M_seal_77 : decode cd_M_seal 77 = .ok (.lload 5, 2) := by decide +kernel
theorem dc_M_seal_79 : decode cd_M_seal 79 = .ok (.aload_n 0, 1) := by decide +kernel
theorem dc_M_seal_80 : decode cd_M_seal 80 = .ok (.getfield 26, 3) := by decide +kernel
theorem dc_M_seal_83 : decode cd_M_seal 83 = .ok (.iload 10, 2) := by decide +kernel
theorem dc_M_seal_85 : decode cd_M_seal 85 = .ok (.iaload, 1) := by decide +kernel
theorem dc_M_seal_86 : decode cd_M_seal 86 = .ok (.i2l, 1) := by decide +kernel
theorem dc_M_seal_87 : decode cd_M_seal 87 = .ok (.ladd, 1) := by decide +kernel
theorem dc_M_seal_88 : decode cd_M_seal 88 = .ok (.lload 8, 2) := by decide +kernel
theorem dc_M_seal_90 : decode cd_M_seal 90 = .ok (.lcmp, 1) := by decide +kernel
theorem dc_M_seal_91 : decode cd_M_seal 91 = .ok (.ifCond .le 17, 3) := by decide +kernel
theorem dc_M_seal_94 : decode cd_M_seal 94 = .ok (.lload 5, 2) := by decide +kernel
theorem dc_M_seal_96 : decode cd_M_seal 96 = .ok (.aload_n 0, 1) := by decide +kernel
theorem dc_M_seal_97 : decode cd_M_seal 97 = .ok (.getfield 26, 3) := by decide +kernel
theorem dc_M_seal_100 : decode cd_M_seal 100 = .ok (.iload 10, 2) := by decide +kernel
theorem dc_M_seal_102 : decode cd_M_seal 102 = .ok (.iaload, 1) := by decide +kernel
theorem dc_M_seal_103 : decode cd_M_seal 103 = .ok (.i2l, 1) := by decide +kernel
theorem dc_M_seal_104 : decode cd_M_seal 104 = .ok (.ladd, 1) := by decide +kernel
theorem dc_M_seal_105 : decode cd_M_seal 105 = .ok (.goto 5, 3) := by decide +kernel
theorem dc_M_seal_108 : decode cd_M_seal 108 = .ok (.lload 8, 2) := by decide +kernel
theorem dc_M_seal_110 : decode cd_M_seal 110 = .ok (.lstore 8, 2) := by decide +kernel
theorem dc_M_seal_112 : decode cd_M_seal 112 = .ok (.iinc 10 1, 3) := by decide +kernel
theorem dc_M_seal_115 : decode cd_M_seal 115 = .ok (.goto (-47), 3) := by decide +kernel
theorem dc_M_seal_118 : decode cd_M_seal 118 = .ok (.aload_n 0, 1) := by decide +kernel
theorem dc_M_seal_119 : decode cd_M_seal 119 = .ok (.lconst 0, 1) := by decide +kernel
theorem dc_M_seal_120 : decode cd_M_seal 120 = .ok (.bipush 8, 2) := by decide +kernel
theorem dc_M_seal_122 : decode cd_M_seal 122 = .ok (.invokevirtual 36, 3) := by decide +kernel
theorem dc_M_seal_125 : decode cd_M_seal 125 = .ok (.aload_n 0, 1) := by decide +kernel
theorem dc_M_seal_126 : decode cd_M_seal 126 = .ok (.bipush 49, 2) := by decide +kernel
theorem dc_M_seal_128 : decode cd_M_seal 128 = .ok (.aload_n 0, 1) := by decide +kernel
theorem dc_M_seal_129 : decode cd_M_seal 129 = .ok (.invokevirtual 74, 3) := by decide +kernel
theorem dc_M_seal_132 : decode cd_M_seal 132 = .ok (.iadd, 1) := by decide +kernel
theorem dc_M_seal_133 : decode cd_M_seal 133 = .ok (.i2l, 1) := by decide +kernel
theorem dc_M_seal_134 : decode cd_M_seal 134 = .ok (.iconst 4, 1) := by decide +kernel
theorem dc_M_seal_135 : decode cd_M_seal 135 = .ok (.invokevirtual 36, 3) := by decide +kernel
theorem dc_M_seal_138 : decode cd_M_seal 138 = .ok (.aload_n 0, 1) := by decide +kernel
theorem dc_M_seal_139 : decode cd_M_seal 139 = .ok (.lconst 0, 1) := by decide +kernel
theorem dc_M_seal_140 : decode cd_M_seal 140 = .ok (.iconst 4, 1) := by decide +kernel
theorem dc_M_seal_141 : decode cd_M_seal 141 = .ok (.invokevirtual 36, 3) := by decide +kernel
theorem dc_M_seal_144 : decode cd_M_seal 144 = .ok (.aload_n 0, 1) := by decide +kernel
theorem dc_M_seal_145 : decode cd_M_seal 145 = .ok (.ldc2_w 58, 3) := by decide +kernel
theorem dc_M_seal_148 : decode cd_M_seal 148 = .ok (.iconst 1, 1) := by decide +kernel
theorem dc_M_seal_149 : decode cd_M_seal 149 = .ok (.invokevirtual 36, 3) := by decide +kernel
theorem dc_M_seal_152 : decode cd_M_seal 152 = .ok (.aload_n 0, 1) := by decide +kernel
theorem dc_M_seal_153 : decode cd_M_seal 153 = .ok (.lconst 0, 1) := by decide +kernel
theorem dc_M_seal_154 : decode cd_M_seal 154 = .ok (.iconst 4, 1) := by decide +kernel
theorem dc_M_seal_155 : decode cd_M_seal 155 = .ok (.invokevirtual 36, 3) := by decide +kernel
theorem dc_M_seal_158 : decode cd_M_seal 158 = .ok (.aload_n 0, 1) := by decide +kernel
theorem dc_M_seal_159 : decode cd_M_seal 159 = .ok (.lconst 0, 1) := by decide +kernel
theorem dc_M_seal_160 : decode cd_M_seal 160 = .ok (.iconst 2, 1) := by decide +kernel
theorem dc_M_seal_161 : decode cd_M_seal 161 = .ok (.invokevirtual 36, 3) := by decide +kernel
theorem dc_M_seal_164 : decode cd_M_seal 164 = .ok (.aload_n 0, 1) := by decide +kernel
theorem dc_M_seal_165 : decode cd_M_seal 165 = .ok (.aload_n 0, 1) := by decide +kernel
theorem dc_M_seal_166 : decode cd_M_seal 166 = .ok (.getfield 66, 3) := by decide +kernel
theorem dc_M_seal_169 : decode cd_M_seal 169 = .ok (.iconst 1, 1) := by decide +kernel
theorem dc_M_seal_170 : decode cd_M_seal 170 = .ok (.isub, 1) := by decide +kernel
theorem dc_M_seal_171 : decode cd_M_seal 171 = .ok (.i2l, 1) := by decide +kernel
theorem dc_M_seal_172 : decode cd_M_seal 172 = .ok (.iconst 4, 1) := by decide +kernel
theorem dc_M_seal_173 : decode cd_M_seal 173 = .ok (.invokevirtual 36, 3) := by decide +kernel
theorem dc_M_seal_176 : decode cd_M_seal 176 = .ok (.aload_n 0, 1) := by decide +kernel
theorem dc_M_seal_177 : decode cd_M_seal 177 = .ok (.lload 5, 2) := by decide +kernel
theorem dc_M_seal_179 : decode cd_M_seal 179 = .ok (.bipush 8, 2) := by decide +kernel
theorem dc_M_seal_181 : decode cd_M_seal 181 = .ok (.invokevirtual 36, 3) := by decide +kernel
theorem dc_M_seal_184 : decode cd_M_seal 184 = .ok (.aload_n 0, 1) := by decide +kernel
theorem dc_M_seal_185 : decode cd_M_seal 185 = .ok (.lload 8, 2) := by decide +kernel
theorem dc_M_seal_187 : decode cd_M_seal 187 = .ok (.bipush 8, 2) := by decide +kernel
theorem dc_M_seal_189 : decode cd_M_seal 189 = .ok (.invokevirtual 36, 3) := by decide +kernel
theorem dc_M_seal_192 : decode cd_M_seal 192 = .ok (.aload_n 0, 1) := by decide +kernel
theorem dc_M_seal_193 : decode cd_M_seal 193 = .ok (.lload_n 1, 1) := by decide +kernel
theorem dc_M_seal_194 : decode cd_M_seal 194 = .ok (.bipush 8, 2) := by decide +kernel
theorem dc_M_seal_196 : decode cd_M_seal 196 = .ok (.invokevirtual 36, 3) := by decide +kernel
theorem dc_M_seal_199 : decode cd_M_seal 199 = .ok (.aload_n 0, 1) := by decide +kernel
theorem dc_M_seal_200 : decode cd_M_seal 200 = .ok (.iload_n 3, 1) := by decide +kernel
theorem dc_M_seal_201 : decode cd_M_seal 201 = .ok (.i2l, 1) := by decide +kernel
theorem dc_M_seal_202 : decode cd_M_seal 202 = .ok (.iconst 2, 1) := by decide +kernel
theorem dc_M_seal_203 : decode cd_M_seal 203 = .ok (.invokevirtual 36, 3) := by decide +kernel
theorem dc_M_seal_206 : decode cd_M_seal 206 = .ok (.aload_n 0, 1) := by decide +kernel
theorem dc_M_seal_207 : decode cd_M_seal 207 = .ok (.iload 4, 2) := by decide +kernel
theorem dc_M_seal_209 : decode cd_M_seal 209 = .ok (.i2l, 1) := by decide +kernel
theorem dc_M_seal_210 : decode cd_M_seal 210 = .ok (.iconst 4, 1) := by decide +kernel
theorem dc_M_seal_211 : decode cd_M_seal 211 = .ok (.invokevirtual 36, 3) := by decide +kernel
theorem dc_M_seal_214 : decode cd_M_seal 214 = .ok (.aload_n 0, 1) := by decide +kernel
theorem dc_M_seal_215 : decode cd_M_seal 215 = .ok (.aload_n 0, 1) := by decide +kernel
theorem dc_M_seal_216 : decode cd_M_seal 216 = .ok (.getfield 66, 3) := by decide +kernel
theorem dc_M_seal_219 : decode cd_M_seal 219 = .ok (.i2l, 1) := by decide +kernel
theorem dc_M_seal_220 : decode cd_M_seal 220 = .ok (.iconst 4, 1) := by decide +kernel
theorem dc_M_seal_221 : decode cd_M_seal 221 = .ok (.invokevirtual 36, 3) := by decide +kernel
theorem dc_M_seal_224 : decode cd_M_seal 224 = .ok (.iconst 0, 1) := by decide +kernel
theorem dc_M_seal_225 : decode cd_M_seal 225 = .ok (.istore 10, 2) := by decide +kernel
theorem dc_M_seal_227 : decode cd_M_seal 227 = .ok (.iload 10, 2) := by decide +kernel
theorem dc_M_seal_229 : decode cd_M_seal 229 = .ok (.aload_n 0, 1) := by decide +kernel
