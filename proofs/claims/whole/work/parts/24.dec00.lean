theorem dc_B_init_0 : decode cd_B_init 0 = .ok (.aload_n 0, 1) := by decide +kernel
theorem dc_B_init_1 : decode cd_B_init 1 = .ok (.invokespecial 1, 3) := by decide +kernel
theorem dc_B_init_4 : decode cd_B_init 4 = .ok (.aload_n 0, 1) := by decide +kernel
theorem dc_B_init_5 : decode cd_B_init 5 = .ok (.new 7, 3) := by decide +kernel
theorem dc_B_init_8 : decode cd_B_init 8 = .ok (.dup, 1) := by decide +kernel
theorem dc_B_init_9 : decode cd_B_init 9 = .ok (.invokespecial 9, 3) := by decide +kernel
theorem dc_B_init_12 : decode cd_B_init 12 = .ok (.putfield 10, 3) := by decide +kernel
theorem dc_B_init_15 : decode cd_B_init 15 = .ok (.aload_n 0, 1) := by decide +kernel
theorem dc_B_init_16 : decode cd_B_init 16 = .ok (.new 16, 3) := by decide +kernel
theorem dc_B_init_19 : decode cd_B_init 19 = .ok (.dup, 1) := by decide +kernel
theorem dc_B_init_20 : decode cd_B_init 20 = .ok (.invokespecial 18, 3) := by decide +kernel
theorem dc_B_init_23 : decode cd_B_init 23 = .ok (.putfield 19, 3) := by decide +kernel
theorem dc_B_init_26 : decode cd_B_init 26 = .ok (.aload_n 0, 1) := by decide +kernel
theorem dc_B_init_27 : decode cd_B_init 27 = .ok (.new 23, 3) := by decide +kernel
theorem dc_B_init_30 : decode cd_B_init 30 = .ok (.dup, 1) := by decide +kernel
theorem dc_B_init_31 : decode cd_B_init 31 = .ok (.aload_n 0, 1) := by decide +kernel
theorem dc_B_init_32 : decode cd_B_init 32 = .ok (.getfield 10, 3) := by decide +kernel
theorem dc_B_init_35 : decode cd_B_init 35 = .ok (.invokespecial 25, 3) := by decide +kernel
theorem dc_B_init_38 : decode cd_B_init 38 = .ok (.putfield 28, 3) := by decide +kernel
theorem dc_B_init_41 : decode cd_B_init 41 = .ok (.aload_n 0, 1) := by decide +kernel
theorem dc_B_init_42 : decode cd_B_init 42 = .ok (.iconst 0, 1) := by decide +kernel
theorem dc_B_init_43 : decode cd_B_init 43 = .ok (.putfield 32, 3) := by decide +kernel
theorem dc_B_init_46 : decode cd_B_init 46 = .ok (.aload_n 0, 1) := by decide +kernel
theorem dc_B_init_47 : decode cd_B_init 47 = .ok (.iconst (-1), 1) := by decide +kernel
theorem dc_B_init_48 : decode cd_B_init 48 = .ok (.putfield 36, 3) := by decide +kernel
theorem dc_B_init_51 : decode cd_B_init 51 = .ok (.return_, 1) := by decide +kernel
theorem dc_T_init_0 : decode cd_T_init 0 = .ok (.aload_n 0, 1) := by decide +kernel
theorem dc_T_init_1 : decode cd_T_init 1 = .ok (.invokespecial 3, 3) := by decide +kernel
theorem dc_T_init_4 : decode cd_T_init 4 = .ok (.aload_n 0, 1) := by decide +kernel
theorem dc_T_init_5 : decode cd_T_init 5 = .ok (.bipush 64, 2) := by decide +kernel
theorem dc_T_init_7 : decode cd_T_init 7 = .ok (.newarray .byte, 2) := by decide +kernel
theorem dc_T_init_9 : decode cd_T_init 9 = .ok (.putfield 9, 3) := by decide +kernel
theorem dc_T_init_12 : decode cd_T_init 12 = .ok (.aload_n 0, 1) := by decide +kernel
theorem dc_T_init_13 : decode cd_T_init 13 = .ok (.iconst 0, 1) := by decide +kernel
theorem dc_T_init_14 : decode cd_T_init 14 = .ok (.putfield 15, 3) := by decide +kernel
theorem dc_T_init_17 : decode cd_T_init 17 = .ok (.aload_n 0, 1) := by decide +kernel
theorem dc_T_init_18 : decode cd_T_init 18 = .ok (.iconst 1, 1) := by decide +kernel
theorem dc_T_init_19 : decode cd_T_init 19 = .ok (.putfield 19, 3) := by decide +kernel
theorem dc_T_init_22 : decode cd_T_init 22 = .ok (.return_, 1) := by decide +kernel
theorem dc_D_init_0 : decode cd_D_init 0 = .ok (.aload_n 0, 1) := by decide +kernel
theorem dc_D_init_1 : decode cd_D_init 1 = .ok (.invokespecial 1, 3) := by decide +kernel
theorem dc_D_init_4 : decode cd_D_init 4 = .ok (.aload_n 0, 1) := by decide +kernel
theorem dc_D_init_5 : decode cd_D_init 5 = .ok (.new 7, 3) := by decide +kernel
theorem dc_D_init_8 : decode cd_D_init 8 = .ok (.dup, 1) := by decide +kernel
theorem dc_D_init_9 : decode cd_D_init 9 = .ok (.invokespecial 9, 3) := by decide +kernel
theorem dc_D_init_12 : decode cd_D_init 12 = .ok (.putfield 10, 3) := by decide +kernel
theorem dc_D_init_15 : decode cd_D_init 15 = .ok (.aload_n 0, 1) := by decide +kernel
theorem dc_D_init_16 : decode cd_D_init 16 = .ok (.iconst 0, 1) := by decide +kernel
theorem dc_D_init_17 : decode cd_D_init 17 = .ok (.putfield 16, 3) := by decide +kernel
theorem dc_D_init_20 : decode cd_D_init 20 = .ok (.aload_n 0, 1) := by decide +kernel
theorem dc_D_init_21 : decode cd_D_init 21 = .ok (.iconst 0, 1) := by decide +kernel
theorem dc_D_init_22 : decode cd_D_init 22 = .ok (.putfield 20, 3) := by decide +kernel
theorem dc_D_init_25 : decode cd_D_init 25 = .ok (.aload_n 0, 1) := by decide +kernel
theorem dc_D_init_26 : decode cd_D_init 26 = .ok (.iconst 0, 1) := by decide +kernel
theorem dc_D_init_27 : decode cd_D_init 27 = .ok (.putfield 23, 3) := by decide +kernel
theorem dc_D_init_30 : decode cd_D_init 30 = .ok (.return_, 1) := by decide +kernel
theorem dc_A_init_0 : decode cd_A_init 0 = .ok (.aload_n 0, 1) := by decide +kernel
theorem dc_A_init_1 : decode cd_A_init 1 = .ok (.invokespecial 1, 3) := by decide +kernel
theorem dc_A_init_4 : decode cd_A_init 4 = .ok (.aload_n 0, 1) := by decide +kernel
theorem dc_A_init_5 : decode cd_A_init 5 = .ok (.getstatic 39, 3) := by decide +kernel
theorem dc_A_init_8 : decode cd_A_init 8 = .ok (.putfield 9, 3) := by decide +kernel
theorem dc_A_init_11 : decode cd_A_init 11 = .ok (.return_, 1) := by decide +kernel
theorem dc_AL_init_0 : decode cd_AL_init 0 = .ok (.aload_n 0, 1) := by decide +kernel
theorem dc_AL_init_1 : decode cd_AL_init 1 = .ok (.invokespecial 1, 3) := by decide +kernel
theorem dc_AL_init_4 : decode cd_AL_init 4 = .ok (.aload_n 0, 1) := by decide +kernel
theorem dc_AL_init_5 : decode cd_AL_init 5 = .ok (.iconst 0, 1) := by decide +kernel
theorem dc_AL_init_6 : decode cd_AL_init 6 = .ok (.putfield 7, 3) := by decide +kernel
theorem dc_AL_init_9 : decode cd_AL_init 9 = .ok (.return_, 1) := by decide +kernel
theorem dc_AC_init_0 : decode cd_AC_init 0 = .ok (.aload_n 0, 1) := by decide +kernel
theorem dc_AC_init_1 : decode cd_AC_init 1 = .ok (.invokespecial 1, 3) := by decide +kernel
theorem dc_AC_init_4 : decode cd_AC_init 4 = .ok (.return_, 1) := by decide +kernel
theorem dc_R_init_0 : decode cd_R_init 0 = .ok (.aload_n 0, 1) := by decide +kernel
theorem dc_R_init_1 : decode cd_R_init 1 = .ok (.invokespecial 3, 3) := by decide +kernel
theorem dc_R_init_4 : decode cd_R_init 4 = .ok (.aload_n 0, 1) := by decide +kernel
theorem dc_R_init_5 : decode cd_R_init 5 = .ok (.aload_n 1, 1) := by decide +kernel
theorem dc_R_init_6 : decode cd_R_init 6 = .ok (.putfield 9, 3) := by decide +kernel
theorem dc_R_init_9 : decode cd_R_init 9 = .ok (.aload_n 0, 1) := by decide +kernel
theorem dc_R_init_10 : decode cd_R_init 10 = .ok (.new 15, 3) := by decide +kernel
theorem dc_R_init_13 : decode cd_R_init 13 = .ok (.dup, 1) := by decide +kernel
theorem dc_R_init_14 : decode cd_R_init 14 = .ok (.invokespecial 17, 3) := by decide +kernel
theorem dc_R_init_17 : decode cd_R_init 17 = .ok (.putfield 18, 3) := by decide +kernel
theorem dc_R_init_20 : decode cd_R_init 20 = .ok (.aload_n 0, 1) := by decide +kernel
theorem dc_R_init_21 : decode cd_R_init 21 = .ok (.new 15, 3) := by decide +kernel
theorem dc_R_init_24 : decode cd_R_init 24 = .ok (.dup, 1) := by decide +kernel
theorem dc_R_init_25 : decode cd_R_init 25 = .ok (.invokespecial 17, 3) := by decide +kernel
theorem dc_R_init_28 : decode cd_R_init 28 = .ok (.putfield 22, 3) := by decide +kernel
theorem dc_R_init_31 : decode cd_R_init 31 = .ok (.aload_n 0, 1) := by decide +kernel
theorem dc_R_init_32 : decode cd_R_init 32 = .ok (.bipush 61, 2) := by decide +kernel
theorem dc_R_init_34 : decode cd_R_init 34 = .ok (.putfield 25, 3) := by decide +kernel
theorem dc_R_init_37 : decode cd_R_init 37 = .ok (.aload_n 0, 1) := by decide +kernel
theorem dc_R_init_38 : decode cd_R_init 38 = .ok (.iconst 0, 1) := by decide +kernel
theorem dc_R_init_39 : decode cd_R_init 39 = .ok (.putfield 29, 3) := by decide +kernel
theorem dc_R_init_42 : decode cd_R_init 42 = .ok (.aload_n 0, 1) := by decide +kernel
theorem dc_R_init_43 : decode cd_R_init 43 = .ok (.iconst 1, 1) := by decide +kernel
theorem dc_R_init_44 : decode cd_R_init 44 = .ok (.putfield 32, 3) := by decide +kernel
theorem dc_R_init_47 : decode cd_R_init 47 = .ok (.aload_n 0, 1) := by decide +kernel
theorem dc_R_init_48 : decode cd_R_init 48 = .ok (.bipush 61, 2) := by decide +kernel
theorem dc_R_init_50 : decode cd_R_init 50 = .ok (.putfield 36, 3) := by decide +kernel
theorem dc_R_init_53 : decode cd_R_init 53 = .ok (.aload_n 0, 1) := by decide +kernel
theorem dc_R_init_54 : decode cd_R_init 54 = .ok (.lconst 0, 1) := by decide +kernel
theorem dc_R_init_55 : decode cd_R_init 55 = .ok (.putfield 39, 3) := by decide +kernel
theorem dc_R_init_58 : decode cd_R_init 58 = .ok (.return_, 1) := by decide +kernel
theorem dc_P_init_0 : decode cd_P_init 0 = .ok (.aload_n 0, 1) := by decide +kernel
theorem dc_P_init_1 : decode cd_P_init 1 = .ok (.invokespecial 3, 3) := by decide +kernel
theorem dc_P_init_4 : decode cd_P_init 4 = .ok (.aload_n 0, 1) := by decide +kernel
theorem dc_P_init_5 : decode cd_P_init 5 = .ok (.iconst (-1), 1) := by decide +kernel
theorem dc_P_init_6 : decode cd_P_init 6 = .ok (.putfield 9, 3) := by decide +kernel
theorem dc_P_init_9 : decode cd_P_init 9 = .ok (.aload_n 0, 1) := by decide +kernel
theorem dc_P_init_10 : decode cd_P_init 10 = .ok (.iconst 0, 1) := by decide +kernel
theorem dc_P_init_11 : decode cd_P_init 11 = .ok (.putfield 15, 3) := by decide +kernel
theorem dc_P_init_14 : decode cd_P_init 14 = .ok (.return_, 1) := by decide +kernel
theorem dc_B_check_0 : decode cd_B_check 0 = .ok (.aload_n 0, 1) := by decide +kernel
theorem dc_B_check_1 : decode cd_B_check 1 = .ok (.getfield 10, 3) := by decide +kernel
theorem dc_B_check_4 : decode cd_B_check 4 = .ok (.getfield 39, 3) := by decide +kernel
theorem dc_B_check_7 : decode cd_B_check 7 = .ok (.bipush 61, 2) := by decide +kernel
theorem dc_B_check_9 : decode cd_B_check 9 = .ok (.if_icmp .ge 5, 3) := by decide +kernel
theorem dc_B_check_12 : decode cd_B_check 12 = .ok (.iconst (-1), 1) := by decide +kernel
theorem dc_B_check_13 : decode cd_B_check 13 = .ok (.ireturn, 1) := by decide +kernel
theorem dc_B_check_14 : decode cd_B_check 14 = .ok (.aload_n 0, 1) := by decide +kernel
theorem dc_B_check_15 : decode cd_B_check 15 = .ok (.getfield 10, 3) := by decide +kernel
theorem dc_B_check_18 : decode cd_B_check 18 = .ok (.iconst 0, 1) := by decide +kernel
theorem dc_B_check_19 : decode cd_B_check 19 = .ok (.invokevirtual 81, 3) := by decide +kernel
theorem dc_B_check_22 : decode cd_B_check 22 = .ok (.ireturn, 1) := by decide +kernel
theorem dc_T_rightChecksum_0 : decode cd_T_rightChecksum 0 = .ok (.aload_n 0, 1) := by decide +kernel
theorem dc_T_rightChecksum_1 : decode cd_T_rightChecksum 1 = .ok (.iload_n 1, 1) := by decide +kernel
theorem dc_T_rightChecksum_2 : decode cd_T_rightChecksum 2 = .ok (.bipush 21, 2) := by decide +kernel
theorem dc_T_rightChecksum_4 : decode cd_T_rightChecksum 4 = .ok (.iadd, 1) := by decide +kernel
theorem dc_T_rightChecksum_5 : decode cd_T_rightChecksum 5 = .ok (.invokevirtual 67, 3) := by decide +kernel
theorem dc_T_rightChecksum_8 : decode cd_T_rightChecksum 8 = .ok (.istore_n 2, 1) := by decide +kernel
theorem dc_T_rightChecksum_9 : decode cd_T_rightChecksum 9 = .ok (.iconst 0, 1) := by decide +kernel
theorem dc_T_rightChecksum_10 : decode cd_T_rightChecksum 10 = .ok (.istore_n 3, 1) := by decide +kernel
theorem dc_T_rightChecksum_11 : decode cd_T_rightChecksum 11 = .ok (.iload_n 3, 1) := by decide +kernel
theorem dc_T_rightChecksum_12 : decode cd_T_rightChecksum 12 = .ok (.iconst 4, 1) := by decide +kernel
theorem dc_T_rightChecksum_13 : decode cd_T_rightChecksum 13 = .ok (.if_icmp .ge 28, 3) := by decide +kernel
theorem dc_T_rightChecksum_16 : decode cd_T_rightChecksum 16 = .ok (.aload_n 0, 1) := by decide +kernel
theorem dc_T_rightChecksum_17 : decode cd_T_rightChecksum 17 = .ok (.iload_n 1, 1) := by decide +kernel
theorem dc_T_rightChecksum_18 : decode cd_T_rightChecksum 18 = .ok (.bipush 17, 2) := by decide +kernel
theorem dc_T_rightChecksum_20 : decode cd_T_rightChecksum 20 = .ok (.iadd, 1) := by decide +kernel
theorem dc_T_rightChecksum_21 : decode cd_T_rightChecksum 21 = .ok (.iload_n 3, 1) := by decide +kernel
theorem dc_T_rightChecksum_22 : decode cd_T_rightChecksum 22 = .ok (.iadd, 1) := by decide +kernel
theorem dc_T_rightChecksum_23 : decode cd_T_rightChecksum 23 = .ok (.iload_n 2, 1) := by decide +kernel
theorem dc_T_rightChecksum_24 : decode cd_T_rightChecksum 24 = .ok (.bipush 24, 2) := by decide +kernel
theorem dc_T_rightChecksum_26 : decode cd_T_rightChecksum 26 = .ok (.bipush 8, 2) := by decide +kernel
theorem dc_T_rightChecksum_28 : decode cd_T_rightChecksum 28 = .ok (.iload_n 3, 1) := by decide +kernel
theorem dc_T_rightChecksum_29 : decode cd_T_rightChecksum 29 = .ok (.imul, 1) := by decide +kernel
theorem dc_T_rightChecksum_30 : decode cd_T_rightChecksum 30 = .ok (.isub, 1) := by decide +kernel
theorem dc_T_rightChecksum_31 : decode cd_T_rightChecksum 31 = .ok (.ishr, 1) := by decide +kernel
theorem dc_T_rightChecksum_32 : decode cd_T_rightChecksum 32 = .ok (.invokevirtual 70, 3) := by decide +kernel
theorem dc_T_rightChecksum_35 : decode cd_T_rightChecksum 35 = .ok (.iinc 3 1, 3) := by decide +kernel
theorem dc_T_rightChecksum_38 : decode cd_T_rightChecksum 38 = .ok (.goto (-27), 3) := by decide +kernel
theorem dc_T_rightChecksum_41 : decode cd_T_rightChecksum 41 = .ok (.iload_n 2, 1) := by decide +kernel
theorem dc_T_rightChecksum_42 : decode cd_T_rightChecksum 42 = .ok (.ireturn, 1) := by decide +kernel
theorem dc_T_checksum_0 : decode cd_T_checksum 0 = .ok (.iconst (-1), 1) := by decide +kernel
theorem dc_T_checksum_1 : decode cd_T_checksum 1 = .ok (.istore_n 2, 1) := by decide +kernel
theorem dc_T_checksum_2 : decode cd_T_checksum 2 = .ok (.iload_n 1, 1) := by decide +kernel
theorem dc_T_checksum_3 : decode cd_T_checksum 3 = .ok (.istore_n 3, 1) := by decide +kernel
theorem dc_T_checksum_4 : decode cd_T_checksum 4 = .ok (.iload_n 3, 1) := by decide +kernel
theorem dc_T_checksum_5 : decode cd_T_checksum 5 = .ok (.aload_n 0, 1) := by decide +kernel
theorem dc_T_checksum_6 : decode cd_T_checksum 6 = .ok (.getfield 15, 3) := by decide +kernel
theorem dc_T_checksum_9 : decode cd_T_checksum 9 = .ok (.if_icmp .ge 48, 3) := by decide +kernel
theorem dc_T_checksum_12 : decode cd_T_checksum 12 = .ok (.iload_n 2, 1) := by decide +kernel
theorem dc_T_checksum_13 : decode cd_T_checksum 13 = .ok (.aload_n 0, 1) := by decide +kernel
theorem dc_T_checksum_14 : decode cd_T_checksum 14 = .ok (.getfield 9, 3) := by decide +kernel
theorem dc_T_checksum_17 : decode cd_T_checksum 17 = .ok (.iload_n 3, 1) := by decide +kernel
theorem dc_T_checksum_18 : decode cd_T_checksum 18 = .ok (.baload, 1) := by decide +kernel
theorem dc_T_checksum_19 : decode cd_T_checksum 19 = .ok (.sipush 255, 3) := by decide +kernel
theorem dc_T_checksum_22 : decode cd_T_checksum 22 = .ok (.iand, 1) := by decide +kernel
theorem dc_T_checksum_23 : decode cd_T_checksum 23 = .ok (.ixor, 1) := by decide +kernel
theorem dc_T_checksum_24 : decode cd_T_checksum 24 = .ok (.istore_n 2, 1) := by decide +kernel
theorem dc_T_checksum_25 : decode cd_T_checksum 25 = .ok (.iload_n 2, 1) := by decide +kernel
theorem dc_T_checksum_26 : decode cd_T_checksum 26 = .ok (.iconst 4, 1) := by decide +kernel
theorem dc_T_checksum_27 : decode cd_T_checksum 27 = .ok (.iushr, 1) := by decide +kernel
theorem dc_T_checksum_28 : decode cd_T_checksum 28 = .ok (.getstatic 63, 3) := by decide +kernel
theorem dc_T_checksum_31 : decode cd_T_checksum 31 = .ok (.iload_n 2, 1) := by decide +kernel
theorem dc_T_checksum_32 : decode cd_T_checksum 32 = .ok (.bipush 15, 2) := by decide +kernel
theorem dc_T_checksum_34 : decode cd_T_checksum 34 = .ok (.iand, 1) := by decide +kernel
theorem dc_T_checksum_35 : decode cd_T_checksum 35 = .ok (.iaload, 1) := by decide +kernel
theorem dc_T_checksum_36 : decode cd_T_checksum 36 = .ok (.ixor, 1) := by decide +kernel
theorem dc_T_checksum_37 : decode cd_T_checksum 37 = .ok (.istore_n 2, 1) := by decide +kernel
theorem dc_T_checksum_38 : decode cd_T_checksum 38 = .ok (.iload_n 2, 1) := by decide +kernel
theorem dc_T_checksum_39 : decode cd_T_checksum 39 = .ok (.iconst 4, 1) := by decide +kernel
theorem dc_T_checksum_40 : decode cd_T_checksum 40 = .ok (.iushr, 1) := by decide +kernel
theorem dc_T_checksum_41 : decode cd_T_checksum 41 = .ok (.getstatic 63, 3) := by decide +kernel
theorem dc_T_checksum_44 : decode cd_T_checksum 44 = .ok (.iload_n 2, 1) := by decide +kernel
theorem dc_T_checksum_45 : decode cd_T_checksum 45 = .ok (.bipush 15, 2) := by decide +kernel
theorem dc_T_checksum_47 : decode cd_T_checksum 47 = .ok (.iand, 1) := by decide +kernel
theorem dc_T_checksum_48 : decode cd_T_checksum 48 = .ok (.iaload, 1) := by decide +kernel
theorem dc_T_checksum_49 : decode cd_T_checksum 49 = .ok (.ixor, 1) := by decide +kernel
theorem dc_T_checksum_50 : decode cd_T_checksum 50 = .ok (.istore_n 2, 1) := by decide +kernel
theorem dc_T_checksum_51 : decode cd_T_checksum 51 = .ok (.iinc 3 1, 3) := by decide +kernel
theorem dc_T_checksum_54 : decode cd_T_checksum 54 = .ok (.goto (-50), 3) := by decide +kernel
theorem dc_T_checksum_57 : decode cd_T_checksum 57 = .ok (.iload_n 2, 1) := by decide +kernel
theorem dc_T_checksum_58 : decode cd_T_checksum 58 = .ok (.iconst (-1), 1) := by decide +kernel
theorem dc_T_checksum_59 : decode cd_T_checksum 59 = .ok (.ixor, 1) := by decide +kernel
theorem dc_T_checksum_60 : decode cd_T_checksum 60 = .ok (.ireturn, 1) := by decide +kernel
theorem dc_T_put_0 : decode cd_T_put 0 = .ok (.aload_n 0, 1) := by decide +kernel
theorem dc_T_put_1 : decode cd_T_put 1 = .ok (.iload_n 1, 1) := by decide +kernel
theorem dc_T_put_2 : decode cd_T_put 2 = .ok (.invokevirtual 23, 3) := by decide +kernel
theorem dc_T_put_5 : decode cd_T_put 5 = .ok (.ifCond .eq 16, 3) := by decide +kernel
theorem dc_T_put_8 : decode cd_T_put 8 = .ok (.aload_n 0, 1) := by decide +kernel
theorem dc_T_put_9 : decode cd_T_put 9 = .ok (.getfield 9, 3) := by decide +kernel
theorem dc_T_put_12 : decode cd_T_put 12 = .ok (.iload_n 1, 1) := by decide +kernel
theorem dc_T_put_13 : decode cd_T_put 13 = .ok (.iload_n 2, 1) := by decide +kernel
theorem dc_T_put_14 : decode cd_T_put 14 = .ok (.i2b, 1) := by decide +kernel
theorem dc_T_put_15 : decode cd_T_put 15 = .ok (.bastore, 1) := by decide +kernel
theorem dc_T_put_16 : decode cd_T_put 16 = .ok (.aload_n 0, 1) := by decide +kernel
theorem dc_T_put_17 : decode cd_T_put 17 = .ok (.iconst 1, 1) := by decide +kernel
theorem dc_T_put_18 : decode cd_T_put 18 = .ok (.putfield 19, 3) := by decide +kernel
theorem dc_T_put_21 : decode cd_T_put 21 = .ok (.return_, 1) := by decide +kernel
theorem dc_T_has_0 : decode cd_T_has 0 = .ok (.iload_n 1, 1) := by decide +kernel
theorem dc_T_has_1 : decode cd_T_has 1 = .ok (.ifCond .lt 15, 3) := by decide +kernel
theorem dc_T_has_4 : decode cd_T_has 4 = .ok (.iload_n 1, 1) := by decide +kernel
theorem dc_T_has_5 : decode cd_T_has 5 = .ok (.aload_n 0, 1) := by decide +kernel
theorem dc_T_has_6 : decode cd_T_has 6 = .ok (.getfield 15, 3) := by decide +kernel
theorem dc_T_has_9 : decode cd_T_has 9 = .ok (.if_icmp .ge 7, 3) := by decide +kernel
theorem dc_T_has_12 : decode cd_T_has 12 = .ok (.iconst 1, 1) := by decide +kernel
theorem dc_T_has_13 : decode cd_T_has 13 = .ok (.goto 4, 3) := by decide +kernel
theorem dc_T_has_16 : decode cd_T_has 16 = .ok (.iconst 0, 1) := by decide +kernel
theorem dc_T_has_17 : decode cd_T_has 17 = .ok (.ireturn, 1) := by decide +kernel
theorem dc_B_clear_0 : decode cd_B_clear 0 = .ok (.aload_n 0, 1) := by decide +kernel
theorem dc_B_clear_1 : decode cd_B_clear 1 = .ok (.getfield 19, 3) := by decide +kernel
theorem dc_B_clear_4 : decode cd_B_clear 4 = .ok (.getfield 98, 3) := by decide +kernel
theorem dc_B_clear_7 : decode cd_B_clear 7 = .ok (.istore_n 1, 1) := by decide +kernel
theorem dc_B_clear_8 : decode cd_B_clear 8 = .ok (.aload_n 0, 1) := by decide +kernel
theorem dc_B_clear_9 : decode cd_B_clear 9 = .ok (.getfield 19, 3) := by decide +kernel
theorem dc_B_clear_12 : decode cd_B_clear 12 = .ok (.invokevirtual 115, 3) := by decide +kernel
theorem dc_B_clear_15 : decode cd_B_clear 15 = .ok (.iload_n 1, 1) := by decide +kernel
theorem dc_B_clear_16 : decode cd_B_clear 16 = .ok (.ireturn, 1) := by decide +kernel
theorem dc_D_drop_0 : decode cd_D_drop 0 = .ok (.aload_n 0, 1) := by decide +kernel
theorem dc_D_drop_1 : decode cd_D_drop 1 = .ok (.getfield 10, 3) := by decide +kernel
theorem dc_D_drop_4 : decode cd_D_drop 4 = .ok (.invokevirtual 44, 3) := by decide +kernel
theorem dc_D_drop_7 : decode cd_D_drop 7 = .ok (.aload_n 0, 1) := by decide +kernel
theorem dc_D_drop_8 : decode cd_D_drop 8 = .ok (.iconst 0, 1) := by decide +kernel
theorem dc_D_drop_9 : decode cd_D_drop 9 = .ok (.putfield 16, 3) := by decide +kernel
theorem dc_D_drop_12 : decode cd_D_drop 12 = .ok (.aload_n 0, 1) := by decide +kernel
theorem dc_D_drop_13 : decode cd_D_drop 13 = .ok (.iconst 0, 1) := by decide +kernel
theorem dc_D_drop_14 : decode cd_D_drop 14 = .ok (.putfield 20, 3) := by decide +kernel
theorem dc_D_drop_17 : decode cd_D_drop 17 = .ok (.aload_n 0, 1) := by decide +kernel
theorem dc_D_drop_18 : decode cd_D_drop 18 = .ok (.iconst 0, 1) := by decide +kernel
theorem dc_D_drop_19 : decode cd_D_drop 19 = .ok (.putfield 23, 3) := by decide +kernel
theorem dc_D_drop_22 : decode cd_D_drop 22 = .ok (.return_, 1) := by decide +kernel
theorem dc_A_clear_0 : decode cd_A_clear 0 = .ok (.aload_n 0, 1) := by decide +kernel
theorem dc_A_clear_1 : decode cd_A_clear 1 = .ok (.dup, 1) := by decide +kernel
theorem dc_A_clear_2 : decode cd_A_clear 2 = .ok (.getfield 63, 3) := by decide +kernel
theorem dc_A_clear_5 : decode cd_A_clear 5 = .ok (.iconst 1, 1) := by decide +kernel
theorem dc_A_clear_6 : decode cd_A_clear 6 = .ok (.iadd, 1) := by decide +kernel
theorem dc_A_clear_7 : decode cd_A_clear 7 = .ok (.putfield 63, 3) := by decide +kernel
theorem dc_A_clear_10 : decode cd_A_clear 10 = .ok (.aload_n 0, 1) := by decide +kernel
theorem dc_A_clear_11 : decode cd_A_clear 11 = .ok (.getfield 9, 3) := by decide +kernel
theorem dc_A_clear_14 : decode cd_A_clear 14 = .ok (.astore_n 1, 1) := by decide +kernel
theorem dc_A_clear_15 : decode cd_A_clear 15 = .ok (.aload_n 0, 1) := by decide +kernel
theorem dc_A_clear_16 : decode cd_A_clear 16 = .ok (.getfield 48, 3) := by decide +kernel
theorem dc_A_clear_19 : decode cd_A_clear 19 = .ok (.istore_n 2, 1) := by decide +kernel
theorem dc_A_clear_20 : decode cd_A_clear 20 = .ok (.aload_n 0, 1) := by decide +kernel
theorem dc_A_clear_21 : decode cd_A_clear 21 = .ok (.iconst 0, 1) := by decide +kernel
theorem dc_A_clear_22 : decode cd_A_clear 22 = .ok (.dup_x1, 1) := by decide +kernel
theorem dc_A_clear_23 : decode cd_A_clear 23 = .ok (.putfield 48, 3) := by decide +kernel
theorem dc_A_clear_26 : decode cd_A_clear 26 = .ok (.istore_n 3, 1) := by decide +kernel
theorem dc_A_clear_27 : decode cd_A_clear 27 = .ok (.iload_n 3, 1) := by decide +kernel
theorem dc_A_clear_28 : decode cd_A_clear 28 = .ok (.iload_n 2, 1) := by decide +kernel
theorem dc_A_clear_29 : decode cd_A_clear 29 = .ok (.if_icmp .ge 13, 3) := by decide +kernel
theorem dc_A_clear_32 : decode cd_A_clear 32 = .ok (.aload_n 1, 1) := by decide +kernel
theorem dc_A_clear_33 : decode cd_A_clear 33 = .ok (.iload_n 3, 1) := by decide +kernel
theorem dc_A_clear_34 : decode cd_A_clear 34 = .ok (.aconst_null, 1) := by decide +kernel
theorem dc_A_clear_35 : decode cd_A_clear 35 = .ok (.aastore, 1) := by decide +kernel
theorem dc_A_clear_36 : decode cd_A_clear 36 = .ok (.iinc 3 1, 3) := by decide +kernel
theorem dc_A_clear_39 : decode cd_A_clear 39 = .ok (.goto (-12), 3) := by decide +kernel
theorem dc_A_clear_42 : decode cd_A_clear 42 = .ok (.return_, 1) := by decide +kernel
theorem dc_B_size_0 : decode cd_B_size 0 = .ok (.aload_n 0, 1) := by decide +kernel
theorem dc_B_size_1 : decode cd_B_size 1 = .ok (.getfield 10, 3) := by decide +kernel
theorem dc_B_size_4 : decode cd_B_size 4 = .ok (.getfield 39, 3) := by decide +kernel
theorem dc_B_size_7 : decode cd_B_size 7 = .ok (.ireturn, 1) := by decide +kernel
theorem dc_L_feed_0 : decode cd_L_feed 0 = .ok (.aload 6, 2) := by decide +kernel
theorem dc_L_feed_2 : decode cd_L_feed 2 = .ok (.iconst 0, 1) := by decide +kernel
theorem dc_L_feed_3 : decode cd_L_feed 3 = .ok (.aload_n 0, 1) := by decide +kernel
theorem dc_L_feed_4 : decode cd_L_feed 4 = .ok (.iload_n 1, 1) := by decide +kernel
theorem dc_L_feed_5 : decode cd_L_feed 5 = .ok (.iload_n 2, 1) := by decide +kernel
theorem dc_L_feed_6 : decode cd_L_feed 6 = .ok (.iload_n 3, 1) := by decide +kernel
theorem dc_L_feed_7 : decode cd_L_feed 7 = .ok (.iload 4, 2) := by decide +kernel
theorem dc_L_feed_9 : decode cd_L_feed 9 = .ok (.iload 5, 2) := by decide +kernel
theorem dc_L_feed_11 : decode cd_L_feed 11 = .ok (.invokevirtual 7, 3) := by decide +kernel
theorem dc_L_feed_14 : decode cd_L_feed 14 = .ok (.i2l, 1) := by decide +kernel
theorem dc_L_feed_15 : decode cd_L_feed 15 = .ok (.lastore, 1) := by decide +kernel
theorem dc_L_feed_16 : decode cd_L_feed 16 = .ok (.goto 7, 3) := by decide +kernel
theorem dc_L_feed_19 : decode cd_L_feed 19 = .ok (.astore 7, 2) := by decide +kernel
theorem dc_L_feed_21 : decode cd_L_feed 21 = .ok (.iconst 1, 1) := by decide +kernel
theorem dc_L_feed_22 : decode cd_L_feed 22 = .ok (.ireturn, 1) := by decide +kernel
theorem dc_L_feed_23 : decode cd_L_feed 23 = .ok (.iconst 0, 1) := by decide +kernel
theorem dc_L_feed_24 : decode cd_L_feed 24 = .ok (.ireturn, 1) := by decide +kernel
theorem dc_B_feed_0 : decode cd_B_feed 0 = .ok (.aload_n 0, 1) := by decide +kernel
theorem dc_B_feed_1 : decode cd_B_feed 1 = .ok (.getfield 10, 3) := by decide +kernel
theorem dc_B_feed_4 : decode cd_B_feed 4 = .ok (.getfield 39, 3) := by decide +kernel
theorem dc_B_feed_7 : decode cd_B_feed 7 = .ok (.bipush 20, 2) := by decide +kernel
theorem dc_B_feed_9 : decode cd_B_feed 9 = .ok (.iadd, 1) := by decide +kernel
theorem dc_B_feed_10 : decode cd_B_feed 10 = .ok (.sipush 16384, 3) := by decide +kernel
theorem dc_B_feed_13 : decode cd_B_feed 13 = .ok (.if_icmp .le 13, 3) := by decide +kernel
theorem dc_B_feed_16 : decode cd_B_feed 16 = .ok (.new 42, 3) := by decide +kernel
theorem dc_B_feed_19 : decode cd_B_feed 19 = .ok (.dup, 1) := by decide +kernel
theorem dc_B_feed_20 : decode cd_B_feed 20 = .ok (.ldc 44, 2) := by decide +kernel
theorem dc_B_feed_22 : decode cd_B_feed 22 = .ok (.invokespecial 46, 3) := by decide +kernel
theorem dc_B_feed_25 : decode cd_B_feed 25 = .ok (.athrow, 1) := by decide +kernel
theorem dc_B_feed_26 : decode cd_B_feed 26 = .ok (.aload_n 0, 1) := by decide +kernel
theorem dc_B_feed_27 : decode cd_B_feed 27 = .ok (.getfield 10, 3) := by decide +kernel
theorem dc_B_feed_30 : decode cd_B_feed 30 = .ok (.bipush 20, 2) := by decide +kernel
theorem dc_B_feed_32 : decode cd_B_feed 32 = .ok (.invokevirtual 49, 3) := by decide +kernel
theorem dc_B_feed_35 : decode cd_B_feed 35 = .ok (.aload_n 0, 1) := by decide +kernel
theorem dc_B_feed_36 : decode cd_B_feed 36 = .ok (.getfield 10, 3) := by decide +kernel
theorem dc_B_feed_39 : decode cd_B_feed 39 = .ok (.iload_n 1, 1) := by decide +kernel
theorem dc_B_feed_40 : decode cd_B_feed 40 = .ok (.i2l, 1) := by decide +kernel
theorem dc_B_feed_41 : decode cd_B_feed 41 = .ok (.iconst 4, 1) := by decide +kernel
theorem dc_B_feed_42 : decode cd_B_feed 42 = .ok (.invokevirtual 53, 3) := by decide +kernel
theorem dc_B_feed_45 : decode cd_B_feed 45 = .ok (.aload_n 0, 1) := by decide +kernel
theorem dc_B_feed_46 : decode cd_B_feed 46 = .ok (.getfield 10, 3) := by decide +kernel
theorem dc_B_feed_49 : decode cd_B_feed 49 = .ok (.iload_n 2, 1) := by decide +kernel
theorem dc_B_feed_50 : decode cd_B_feed 50 = .ok (.i2l, 1) := by decide +kernel
theorem dc_B_feed_51 : decode cd_B_feed 51 = .ok (.iconst 4, 1) := by decide +kernel
theorem dc_B_feed_52 : decode cd_B_feed 52 = .ok (.invokevirtual 53, 3) := by decide +kernel
theorem dc_B_feed_55 : decode cd_B_feed 55 = .ok (.aload_n 0, 1) := by decide +kernel
theorem dc_B_feed_56 : decode cd_B_feed 56 = .ok (.getfield 10, 3) := by decide +kernel
theorem dc_B_feed_59 : decode cd_B_feed 59 = .ok (.iload_n 3, 1) := by decide +kernel
theorem dc_B_feed_60 : decode cd_B_feed 60 = .ok (.i2l, 1) := by decide +kernel
theorem dc_B_feed_61 : decode cd_B_feed 61 = .ok (.iconst 4, 1) := by decide +kernel
theorem dc_B_feed_62 : decode cd_B_feed 62 = .ok (.invokevirtual 53, 3) := by decide +kernel
theorem dc_B_feed_65 : decode cd_B_feed 65 = .ok (.aload_n 0, 1) := by decide +kernel
theorem dc_B_feed_66 : decode cd_B_feed 66 = .ok (.getfield 10, 3) := by decide +kernel
theorem dc_B_feed_69 : decode cd_B_feed 69 = .ok (.iload 4, 2) := by decide +kernel
theorem dc_B_feed_71 : decode cd_B_feed 71 = .ok (.i2l, 1) := by decide +kernel
theorem dc_B_feed_72 : decode cd_B_feed 72 = .ok (.iconst 4, 1) := by decide +kernel
theorem dc_B_feed_73 : decode cd_B_feed 73 = .ok (.invokevirtual 53, 3) := by decide +kernel
theorem dc_B_feed_76 : decode cd_B_feed 76 = .ok (.aload_n 0, 1) := by decide +kernel
theorem dc_B_feed_77 : decode cd_B_feed 77 = .ok (.getfield 10, 3) := by decide +kernel
theorem dc_B_feed_80 : decode cd_B_feed 80 = .ok (.iload 5, 2) := by decide +kernel
theorem dc_B_feed_82 : decode cd_B_feed 82 = .ok (.i2l, 1) := by decide +kernel
theorem dc_B_feed_83 : decode cd_B_feed 83 = .ok (.iconst 4, 1) := by decide +kernel
theorem dc_B_feed_84 : decode cd_B_feed 84 = .ok (.invokevirtual 53, 3) := by decide +kernel
theorem dc_B_feed_87 : decode cd_B_feed 87 = .ok (.aload_n 0, 1) := by decide +kernel
theorem dc_B_feed_88 : decode cd_B_feed 88 = .ok (.getfield 10, 3) := by decide +kernel
theorem dc_B_feed_91 : decode cd_B_feed 91 = .ok (.getfield 39, 3) := by decide +kernel
theorem dc_B_feed_94 : decode cd_B_feed 94 = .ok (.ireturn, 1) := by decide +kernel
theorem dc_T_makeRoom_0 : decode cd_T_makeRoom 0 = .ok (.aload_n 0, 1) := by decide +kernel
theorem dc_T_makeRoom_1 : decode cd_T_makeRoom 1 = .ok (.getfield 15, 3) := by decide +kernel
theorem dc_T_makeRoom_4 : decode cd_T_makeRoom 4 = .ok (.iload_n 1, 1) := by decide +kernel
theorem dc_T_makeRoom_5 : decode cd_T_makeRoom 5 = .ok (.iadd, 1) := by decide +kernel
theorem dc_T_makeRoom_6 : decode cd_T_makeRoom 6 = .ok (.aload_n 0, 1) := by decide +kernel
theorem dc_T_makeRoom_7 : decode cd_T_makeRoom 7 = .ok (.getfield 9, 3) := by decide +kernel
theorem dc_T_makeRoom_10 : decode cd_T_makeRoom 10 = .ok (.arraylength, 1) := by decide +kernel
theorem dc_T_makeRoom_11 : decode cd_T_makeRoom 11 = .ok (.if_icmp .le 38, 3) := by decide +kernel
theorem dc_T_makeRoom_14 : decode cd_T_makeRoom 14 = .ok (.iconst 2, 1) := by decide +kernel
theorem dc_T_makeRoom_15 : decode cd_T_makeRoom 15 = .ok (.aload_n 0, 1) := by decide +kernel
theorem dc_T_makeRoom_16 : decode cd_T_makeRoom 16 = .ok (.getfield 9, 3) := by decide +kernel
theorem dc_T_makeRoom_19 : decode cd_T_makeRoom 19 = .ok (.arraylength, 1) := by decide +kernel
theorem dc_T_makeRoom_20 : decode cd_T_makeRoom 20 = .ok (.imul, 1) := by decide +kernel
theorem dc_T_makeRoom_21 : decode cd_T_makeRoom 21 = .ok (.sipush 16384, 3) := by decide +kernel
theorem dc_T_makeRoom_24 : decode cd_T_makeRoom 24 = .ok (.invokestatic 27, 3) := by decide +kernel
theorem dc_T_makeRoom_27 : decode cd_T_makeRoom 27 = .ok (.istore_n 2, 1) := by decide +kernel
theorem dc_T_makeRoom_28 : decode cd_T_makeRoom 28 = .ok (.aload_n 0, 1) := by decide +kernel
theorem dc_T_makeRoom_29 : decode cd_T_makeRoom 29 = .ok (.aload_n 0, 1) := by decide +kernel
theorem dc_T_makeRoom_30 : decode cd_T_makeRoom 30 = .ok (.getfield 9, 3) := by decide +kernel
theorem dc_T_makeRoom_33 : decode cd_T_makeRoom 33 = .ok (.aload_n 0, 1) := by decide +kernel
theorem dc_T_makeRoom_34 : decode cd_T_makeRoom 34 = .ok (.getfield 15, 3) := by decide +kernel
theorem dc_T_makeRoom_37 : decode cd_T_makeRoom 37 = .ok (.iload_n 1, 1) := by decide +kernel
theorem dc_T_makeRoom_38 : decode cd_T_makeRoom 38 = .ok (.iadd, 1) := by decide +kernel
theorem dc_T_makeRoom_39 : decode cd_T_makeRoom 39 = .ok (.iload_n 2, 1) := by decide +kernel
theorem dc_T_makeRoom_40 : decode cd_T_makeRoom 40 = .ok (.invokestatic 33, 3) := by decide +kernel
theorem dc_T_makeRoom_43 : decode cd_T_makeRoom 43 = .ok (.invokestatic 36, 3) := by decide +kernel
theorem dc_T_makeRoom_46 : decode cd_T_makeRoom 46 = .ok (.putfield 9, 3) := by decide +kernel
theorem dc_T_makeRoom_49 : decode cd_T_makeRoom 49 = .ok (.return_, 1) := by decide +kernel
theorem dc_MA_min_0 : decode cd_MA_min 0 = .ok (.iload_n 0, 1) := by decide +kernel
theorem dc_MA_min_1 : decode cd_MA_min 1 = .ok (.iload_n 1, 1) := by decide +kernel
theorem dc_MA_min_2 : decode cd_MA_min 2 = .ok (.if_icmp .gt 7, 3) := by decide +kernel
theorem dc_MA_min_5 : decode cd_MA_min 5 = .ok (.iload_n 0, 1) := by decide +kernel
theorem dc_MA_min_6 : decode cd_MA_min 6 = .ok (.goto 4, 3) := by decide +kernel
theorem dc_MA_min_9 : decode cd_MA_min 9 = .ok (.iload_n 1, 1) := by decide +kernel
theorem dc_MA_min_10 : decode cd_MA_min 10 = .ok (.ireturn, 1) := by decide +kernel
theorem dc_MA_max_0 : decode cd_MA_max 0 = .ok (.iload_n 0, 1) := by decide +kernel
theorem dc_MA_max_1 : decode cd_MA_max 1 = .ok (.iload_n 1, 1) := by decide +kernel
theorem dc_MA_max_2 : decode cd_MA_max 2 = .ok (.if_icmp .lt 7, 3) := by decide +kernel
theorem dc_MA_max_5 : decode cd_MA_max 5 = .ok (.iload_n 0, 1) := by decide +kernel
theorem dc_MA_max_6 : decode cd_MA_max 6 = .ok (.goto 4, 3) := by decide +kernel
theorem dc_MA_max_9 : decode cd_MA_max 9 = .ok (.iload_n 1, 1) := by decide +kernel
theorem dc_MA_max_10 : decode cd_MA_max 10 = .ok (.ireturn, 1) := by decide +kernel
theorem dc_AR_copyOf_0 : decode cd_AR_copyOf 0 = .ok (.iload_n 1, 1) := by decide +kernel
theorem dc_AR_copyOf_1 : decode cd_AR_copyOf 1 = .ok (.aload_n 0, 1) := by decide +kernel
theorem dc_AR_copyOf_2 : decode cd_AR_copyOf 2 = .ok (.arraylength, 1) := by decide +kernel
theorem dc_AR_copyOf_3 : decode cd_AR_copyOf 3 = .ok (.if_icmp .ne 11, 3) := by decide +kernel
theorem dc_AR_copyOf_6 : decode cd_AR_copyOf 6 = .ok (.aload_n 0, 1) := by decide +kernel
theorem dc_AR_copyOf_7 : decode cd_AR_copyOf 7 = .ok (.invokevirtual 310, 3) := by decide +kernel
theorem dc_AR_copyOf_10 : decode cd_AR_copyOf 10 = .ok (.checkcast 311, 3) := by decide +kernel
theorem dc_AR_copyOf_13 : decode cd_AR_copyOf 13 = .ok (.areturn, 1) := by decide +kernel
theorem dc_AR_copyOf_14 : decode cd_AR_copyOf 14 = .ok (.iload_n 1, 1) := by decide +kernel
theorem dc_AR_copyOf_15 : decode cd_AR_copyOf 15 = .ok (.newarray .byte, 2) := by decide +kernel
theorem dc_AR_copyOf_17 : decode cd_AR_copyOf 17 = .ok (.astore_n 2, 1) := by decide +kernel
theorem dc_AR_copyOf_18 : decode cd_AR_copyOf 18 = .ok (.aload_n 0, 1) := by decide +kernel
theorem dc_AR_copyOf_19 : decode cd_AR_copyOf 19 = .ok (.iconst 0, 1) := by decide +kernel
theorem dc_AR_copyOf_20 : decode cd_AR_copyOf 20 = .ok (.aload_n 2, 1) := by decide +kernel
theorem dc_AR_copyOf_21 : decode cd_AR_copyOf 21 = .ok (.iconst 0, 1) := by decide +kernel
theorem dc_AR_copyOf_22 : decode cd_AR_copyOf 22 = .ok (.aload_n 0, 1) := by decide +kernel
theorem dc_AR_copyOf_23 : decode cd_AR_copyOf 23 = .ok (.arraylength, 1) := by decide +kernel
theorem dc_AR_copyOf_24 : decode cd_AR_copyOf 24 = .ok (.iload_n 1, 1) := by decide +kernel
theorem dc_AR_copyOf_25 : decode cd_AR_copyOf 25 = .ok (.invokestatic 304, 3) := by decide +kernel
theorem dc_AR_copyOf_28 : decode cd_AR_copyOf 28 = .ok (.invokestatic 150, 3) := by decide +kernel
theorem dc_AR_copyOf_31 : decode cd_AR_copyOf 31 = .ok (.aload_n 2, 1) := by decide +kernel
theorem dc_AR_copyOf_32 : decode cd_AR_copyOf 32 = .ok (.areturn, 1) := by decide +kernel
theorem dc_T_putNumber_0 : decode cd_T_putNumber 0 = .ok (.iload_n 3, 1) := by decide +kernel
theorem dc_T_putNumber_1 : decode cd_T_putNumber 1 = .ok (.iconst 1, 1) := by decide +kernel
theorem dc_T_putNumber_2 : decode cd_T_putNumber 2 = .ok (.isub, 1) := by decide +kernel
theorem dc_T_putNumber_3 : decode cd_T_putNumber 3 = .ok (.istore 4, 2) := by decide +kernel
theorem dc_T_putNumber_5 : decode cd_T_putNumber 5 = .ok (.iload 4, 2) := by decide +kernel
theorem dc_T_putNumber_7 : decode cd_T_putNumber 7 = .ok (.ifCond .lt 21, 3) := by decide +kernel
theorem dc_T_putNumber_10 : decode cd_T_putNumber 10 = .ok (.aload_n 0, 1) := by decide +kernel
theorem dc_T_putNumber_11 : decode cd_T_putNumber 11 = .ok (.lload_n 1, 1) := by decide +kernel
theorem dc_T_putNumber_12 : decode cd_T_putNumber 12 = .ok (.bipush 8, 2) := by decide +kernel
theorem dc_T_putNumber_14 : decode cd_T_putNumber 14 = .ok (.iload 4, 2) := by decide +kernel
theorem dc_T_putNumber_16 : decode cd_T_putNumber 16 = .ok (.imul, 1) := by decide +kernel
theorem dc_T_putNumber_17 : decode cd_T_putNumber 17 = .ok (.lshr, 1) := by decide +kernel
theorem dc_T_putNumber_18 : decode cd_T_putNumber 18 = .ok (.l2i, 1) := by decide +kernel
theorem dc_T_putNumber_19 : decode cd_T_putNumber 19 = .ok (.invokevirtual 46, 3) := by decide +kernel
theorem dc_T_putNumber_22 : decode cd_T_putNumber 22 = .ok (.iinc 4 (-1), 3) := by decide +kernel
theorem dc_T_putNumber_25 : decode cd_T_putNumber 25 = .ok (.goto (-20), 3) := by decide +kernel
theorem dc_T_putNumber_28 : decode cd_T_putNumber 28 = .ok (.return_, 1) := by decide +kernel
theorem dc_T_add_0 : decode cd_T_add 0 = .ok (.aload_n 0, 1) := by decide +kernel
theorem dc_T_add_1 : decode cd_T_add 1 = .ok (.iconst 1, 1) := by decide +kernel
theorem dc_T_add_2 : decode cd_T_add 2 = .ok (.invokevirtual 42, 3) := by decide +kernel
theorem dc_T_add_5 : decode cd_T_add 5 = .ok (.aload_n 0, 1) := by decide +kernel
theorem dc_T_add_6 : decode cd_T_add 6 = .ok (.getfield 9, 3) := by decide +kernel
theorem dc_T_add_9 : decode cd_T_add 9 = .ok (.aload_n 0, 1) := by decide +kernel
theorem dc_T_add_10 : decode cd_T_add 10 = .ok (.getfield 15, 3) := by decide +kernel
theorem dc_T_add_13 : decode cd_T_add 13 = .ok (.iload_n 1, 1) := by decide +kernel
theorem dc_T_add_14 : decode cd_T_add 14 = .ok (.i2b, 1) := by decide +kernel
theorem dc_T_add_15 : decode cd_T_add 15 = .ok (.bastore, 1) := by decide +kernel
theorem dc_T_add_16 : decode cd_T_add 16 = .ok (.aload_n 0, 1) := by decide +kernel
theorem dc_T_add_17 : decode cd_T_add 17 = .ok (.dup, 1) := by decide +kernel
theorem dc_T_add_18 : decode cd_T_add 18 = .ok (.getfield 15, 3) := by decide +kernel
theorem dc_T_add_21 : decode cd_T_add 21 = .ok (.iconst 1, 1) := by decide +kernel
theorem dc_T_add_22 : decode cd_T_add 22 = .ok (.iadd, 1) := by decide +kernel
theorem dc_T_add_23 : decode cd_T_add 23 = .ok (.putfield 15, 3) := by decide +kernel
theorem dc_T_add_26 : decode cd_T_add 26 = .ok (.aload_n 0, 1) := by decide +kernel
theorem dc_T_add_27 : decode cd_T_add 27 = .ok (.iconst 1, 1) := by decide +kernel
theorem dc_T_add_28 : decode cd_T_add 28 = .ok (.putfield 19, 3) := by decide +kernel
theorem dc_T_add_31 : decode cd_T_add 31 = .ok (.return_, 1) := by decide +kernel
theorem dc_L_trim_0 : decode cd_L_trim 0 = .ok (.aload_n 2, 1) := by decide +kernel
theorem dc_L_trim_1 : decode cd_L_trim 1 = .ok (.iconst 0, 1) := by decide +kernel
theorem dc_L_trim_2 : decode cd_L_trim 2 = .ok (.aload_n 0, 1) := by decide +kernel
theorem dc_L_trim_3 : decode cd_L_trim 3 = .ok (.iload_n 1, 1) := by decide +kernel
theorem dc_L_trim_4 : decode cd_L_trim 4 = .ok (.invokevirtual 15, 3) := by decide +kernel
theorem dc_L_trim_7 : decode cd_L_trim 7 = .ok (.i2l, 1) := by decide +kernel
theorem dc_L_trim_8 : decode cd_L_trim 8 = .ok (.lastore, 1) := by decide +kernel
theorem dc_L_trim_9 : decode cd_L_trim 9 = .ok (.goto 6, 3) := by decide +kernel
theorem dc_L_trim_12 : decode cd_L_trim 12 = .ok (.astore_n 3, 1) := by decide +kernel
theorem dc_L_trim_13 : decode cd_L_trim 13 = .ok (.iconst 1, 1) := by decide +kernel
theorem dc_L_trim_14 : decode cd_L_trim 14 = .ok (.ireturn, 1) := by decide +kernel
theorem dc_L_trim_15 : decode cd_L_trim 15 = .ok (.iconst 0, 1) := by decide +kernel
theorem dc_L_trim_16 : decode cd_L_trim 16 = .ok (.ireturn, 1) := by decide +kernel
theorem dc_B_trim_0 : decode cd_B_trim 0 = .ok (.iload_n 1, 1) := by decide +kernel
theorem dc_B_trim_1 : decode cd_B_trim 1 = .ok (.ifCond .lt 14, 3) := by decide +kernel
theorem dc_B_trim_4 : decode cd_B_trim 4 = .ok (.iload_n 1, 1) := by decide +kernel
theorem dc_B_trim_5 : decode cd_B_trim 5 = .ok (.aload_n 0, 1) := by decide +kernel
theorem dc_B_trim_6 : decode cd_B_trim 6 = .ok (.getfield 10, 3) := by decide +kernel
theorem dc_B_trim_9 : decode cd_B_trim 9 = .ok (.getfield 39, 3) := by decide +kernel
theorem dc_B_trim_12 : decode cd_B_trim 12 = .ok (.if_icmp .le 13, 3) := by decide +kernel
theorem dc_B_trim_15 : decode cd_B_trim 15 = .ok (.new 57, 3) := by decide +kernel
theorem dc_B_trim_18 : decode cd_B_trim 18 = .ok (.dup, 1) := by decide +kernel
theorem dc_B_trim_19 : decode cd_B_trim 19 = .ok (.ldc 59, 2) := by decide +kernel
theorem dc_B_trim_21 : decode cd_B_trim 21 = .ok (.invokespecial 61, 3) := by decide +kernel
theorem dc_B_trim_24 : decode cd_B_trim 24 = .ok (.athrow, 1) := by decide +kernel
theorem dc_B_trim_25 : decode cd_B_trim 25 = .ok (.aload_n 0, 1) := by decide +kernel
theorem dc_B_trim_26 : decode cd_B_trim 26 = .ok (.getfield 10, 3) := by decide +kernel
theorem dc_B_trim_29 : decode cd_B_trim 29 = .ok (.iload_n 1, 1) := by decide +kernel
theorem dc_B_trim_30 : decode cd_B_trim 30 = .ok (.invokevirtual 62, 3) := by decide +kernel
theorem dc_B_trim_33 : decode cd_B_trim 33 = .ok (.aload_n 0, 1) := by decide +kernel
theorem dc_B_trim_34 : decode cd_B_trim 34 = .ok (.getfield 10, 3) := by decide +kernel
theorem dc_B_trim_37 : decode cd_B_trim 37 = .ok (.getfield 39, 3) := by decide +kernel
theorem dc_B_trim_40 : decode cd_B_trim 40 = .ok (.ireturn, 1) := by decide +kernel
theorem dc_T_cut_0 : decode cd_T_cut 0 = .ok (.aload_n 0, 1) := by decide +kernel
theorem dc_T_cut_1 : decode cd_T_cut 1 = .ok (.dup, 1) := by decide +kernel
theorem dc_T_cut_2 : decode cd_T_cut 2 = .ok (.getfield 15, 3) := by decide +kernel
theorem dc_T_cut_5 : decode cd_T_cut 5 = .ok (.iload_n 1, 1) := by decide +kernel
theorem dc_T_cut_6 : decode cd_T_cut 6 = .ok (.isub, 1) := by decide +kernel
theorem dc_T_cut_7 : decode cd_T_cut 7 = .ok (.putfield 15, 3) := by decide +kernel
theorem dc_T_cut_10 : decode cd_T_cut 10 = .ok (.aload_n 0, 1) := by decide +kernel
theorem dc_T_cut_11 : decode cd_T_cut 11 = .ok (.iconst 1, 1) := by decide +kernel
theorem dc_T_cut_12 : decode cd_T_cut 12 = .ok (.putfield 19, 3) := by decide +kernel
theorem dc_T_cut_15 : decode cd_T_cut 15 = .ok (.return_, 1) := by decide +kernel
theorem dc_L_spoil_0 : decode cd_L_spoil 0 = .ok (.aload_n 3, 1) := by decide +kernel
theorem dc_L_spoil_1 : decode cd_L_spoil 1 = .ok (.iconst 0, 1) := by decide +kernel
theorem dc_L_spoil_2 : decode cd_L_spoil 2 = .ok (.aload_n 0, 1) := by decide +kernel
theorem dc_L_spoil_3 : decode cd_L_spoil 3 = .ok (.iload_n 1, 1) := by decide +kernel
theorem dc_L_spoil_4 : decode cd_L_spoil 4 = .ok (.iload_n 2, 1) := by decide +kernel
theorem dc_L_spoil_5 : decode cd_L_spoil 5 = .ok (.invokevirtual 21, 3) := by decide +kernel
theorem dc_L_spoil_8 : decode cd_L_spoil 8 = .ok (.i2l, 1) := by decide +kernel
theorem dc_L_spoil_9 : decode cd_L_spoil 9 = .ok (.lastore, 1) := by decide +kernel
theorem dc_L_spoil_10 : decode cd_L_spoil 10 = .ok (.goto 7, 3) := by decide +kernel
theorem dc_L_spoil_13 : decode cd_L_spoil 13 = .ok (.astore 4, 2) := by decide +kernel
theorem dc_L_spoil_15 : decode cd_L_spoil 15 = .ok (.iconst 1, 1) := by decide +kernel
theorem dc_L_spoil_16 : decode cd_L_spoil 16 = .ok (.ireturn, 1) := by decide +kernel
theorem dc_L_spoil_17 : decode cd_L_spoil 17 = .ok (.iconst 0, 1) := by decide +kernel
theorem dc_L_spoil_18 : decode cd_L_spoil 18 = .ok (.ireturn, 1) := by decide +kernel
theorem dc_B_spoil_0 : decode cd_B_spoil 0 = .ok (.aload_n 0, 1) := by decide +kernel
theorem dc_B_spoil_1 : decode cd_B_spoil 1 = .ok (.getfield 10, 3) := by decide +kernel
theorem dc_B_spoil_4 : decode cd_B_spoil 4 = .ok (.iload_n 1, 1) := by decide +kernel
theorem dc_B_spoil_5 : decode cd_B_spoil 5 = .ok (.invokevirtual 65, 3) := by decide +kernel
theorem dc_B_spoil_8 : decode cd_B_spoil 8 = .ok (.ifCond .ne 13, 3) := by decide +kernel
theorem dc_B_spoil_11 : decode cd_B_spoil 11 = .ok (.new 57, 3) := by decide +kernel
theorem dc_B_spoil_14 : decode cd_B_spoil 14 = .ok (.dup, 1) := by decide +kernel
theorem dc_B_spoil_15 : decode cd_B_spoil 15 = .ok (.ldc 69, 2) := by decide +kernel
theorem dc_B_spoil_17 : decode cd_B_spoil 17 = .ok (.invokespecial 61, 3) := by decide +kernel
theorem dc_B_spoil_20 : decode cd_B_spoil 20 = .ok (.athrow, 1) := by decide +kernel
theorem dc_B_spoil_21 : decode cd_B_spoil 21 = .ok (.iload_n 2, 1) := by decide +kernel
theorem dc_B_spoil_22 : decode cd_B_spoil 22 = .ok (.ifCond .lt 10, 3) := by decide +kernel
theorem dc_B_spoil_25 : decode cd_B_spoil 25 = .ok (.iload_n 2, 1) := by decide +kernel
theorem dc_B_spoil_26 : decode cd_B_spoil 26 = .ok (.sipush 255, 3) := by decide +kernel
theorem dc_B_spoil_29 : decode cd_B_spoil 29 = .ok (.if_icmp .le 13, 3) := by decide +kernel
theorem dc_B_spoil_32 : decode cd_B_spoil 32 = .ok (.new 57, 3) := by decide +kernel
theorem dc_B_spoil_35 : decode cd_B_spoil 35 = .ok (.dup, 1) := by decide +kernel
theorem dc_B_spoil_36 : decode cd_B_spoil 36 = .ok (.ldc 71, 2) := by decide +kernel
theorem dc_B_spoil_38 : decode cd_B_spoil 38 = .ok (.invokespecial 61, 3) := by decide +kernel
theorem dc_B_spoil_41 : decode cd_B_spoil 41 = .ok (.athrow, 1) := by decide +kernel
theorem dc_B_spoil_42 : decode cd_B_spoil 42 = .ok (.aload_n 0, 1) := by decide +kernel
theorem dc_B_spoil_43 : decode cd_B_spoil 43 = .ok (.getfield 10, 3) := by decide +kernel
theorem dc_B_spoil_46 : decode cd_B_spoil 46 = .ok (.iload_n 1, 1) := by decide +kernel
theorem dc_B_spoil_47 : decode cd_B_spoil 47 = .ok (.aload_n 0, 1) := by decide +kernel
theorem dc_B_spoil_48 : decode cd_B_spoil 48 = .ok (.getfield 10, 3) := by decide +kernel
theorem dc_B_spoil_51 : decode cd_B_spoil 51 = .ok (.iload_n 1, 1) := by decide +kernel
theorem dc_B_spoil_52 : decode cd_B_spoil 52 = .ok (.invokevirtual 73, 3) := by decide +kernel
theorem dc_B_spoil_55 : decode cd_B_spoil 55 = .ok (.iload_n 2, 1) := by decide +kernel
theorem dc_B_spoil_56 : decode cd_B_spoil 56 = .ok (.ixor, 1) := by decide +kernel
theorem dc_B_spoil_57 : decode cd_B_spoil 57 = .ok (.invokevirtual 77, 3) := by decide +kernel
theorem dc_B_spoil_60 : decode cd_B_spoil 60 = .ok (.aload_n 0, 1) := by decide +kernel
theorem dc_B_spoil_61 : decode cd_B_spoil 61 = .ok (.getfield 10, 3) := by decide +kernel
theorem dc_B_spoil_64 : decode cd_B_spoil 64 = .ok (.iload_n 1, 1) := by decide +kernel
theorem dc_B_spoil_65 : decode cd_B_spoil 65 = .ok (.invokevirtual 73, 3) := by decide +kernel
theorem dc_B_spoil_68 : decode cd_B_spoil 68 = .ok (.ireturn, 1) := by decide +kernel
theorem dc_T_get_0 : decode cd_T_get 0 = .ok (.iload_n 1, 1) := by decide +kernel
theorem dc_T_get_1 : decode cd_T_get 1 = .ok (.ifCond .lt 24, 3) := by decide +kernel
theorem dc_T_get_4 : decode cd_T_get 4 = .ok (.iload_n 1, 1) := by decide +kernel
theorem dc_T_get_5 : decode cd_T_get 5 = .ok (.aload_n 0, 1) := by decide +kernel
theorem dc_T_get_6 : decode cd_T_get 6 = .ok (.getfield 15, 3) := by decide +kernel
theorem dc_T_get_9 : decode cd_T_get 9 = .ok (.if_icmp .ge 16, 3) := by decide +kernel
theorem dc_T_get_12 : decode cd_T_get 12 = .ok (.aload_n 0, 1) := by decide +kernel
theorem dc_T_get_13 : decode cd_T_get 13 = .ok (.getfield 9, 3) := by decide +kernel
theorem dc_T_get_16 : decode cd_T_get 16 = .ok (.iload_n 1, 1) := by decide +kernel
theorem dc_T_get_17 : decode cd_T_get 17 = .ok (.baload, 1) := by decide +kernel
theorem dc_T_get_18 : decode cd_T_get 18 = .ok (.sipush 255, 3) := by decide +kernel
theorem dc_T_get_21 : decode cd_T_get 21 = .ok (.iand, 1) := by decide +kernel
theorem dc_T_get_22 : decode cd_T_get 22 = .ok (.goto 4, 3) := by decide +kernel
theorem dc_T_get_25 : decode cd_T_get 25 = .ok (.iconst 0, 1) := by decide +kernel
theorem dc_T_get_26 : decode cd_T_get 26 = .ok (.ireturn, 1) := by decide +kernel
theorem dc_L_record_0 : decode cd_L_record 0 = .ok (.aload 9, 2) := by decide +kernel
theorem dc_L_record_2 : decode cd_L_record 2 = .ok (.iconst 0, 1) := by decide +kernel
theorem dc_L_record_3 : decode cd_L_record 3 = .ok (.aload_n 0, 1) := by decide +kernel
theorem dc_L_record_4 : decode cd_L_record 4 = .ok (.iload_n 1, 1) := by decide +kernel
theorem dc_L_record_5 : decode cd_L_record 5 = .ok (.lload_n 2, 1) := by decide +kernel
theorem dc_L_record_6 : decode cd_L_record 6 = .ok (.iload 4, 2) := by decide +kernel
theorem dc_L_record_8 : decode cd_L_record 8 = .ok (.lload 5, 2) := by decide +kernel
theorem dc_L_record_10 : decode cd_L_record 10 = .ok (.iload 7, 2) := by decide +kernel
theorem dc_L_record_12 : decode cd_L_record 12 = .ok (.iload 8, 2) := by decide +kernel
theorem dc_L_record_14 : decode cd_L_record 14 = .ok (.invokevirtual 25, 3) := by decide +kernel
theorem dc_L_record_17 : decode cd_L_record 17 = .ok (.i2l, 1) := by decide +kernel
theorem dc_L_record_18 : decode cd_L_record 18 = .ok (.lastore, 1) := by decide +kernel
theorem dc_L_record_19 : decode cd_L_record 19 = .ok (.goto 11, 3) := by decide +kernel
theorem dc_L_record_22 : decode cd_L_record 22 = .ok (.astore 10, 2) := by decide +kernel
theorem dc_L_record_24 : decode cd_L_record 24 = .ok (.iconst 1, 1) := by decide +kernel
theorem dc_L_record_25 : decode cd_L_record 25 = .ok (.ireturn, 1) := by decide +kernel
theorem dc_L_record_26 : decode cd_L_record 26 = .ok (.astore 10, 2) := by decide +kernel
theorem dc_L_record_28 : decode cd_L_record 28 = .ok (.iconst 2, 1) := by decide +kernel
theorem dc_L_record_29 : decode cd_L_record 29 = .ok (.ireturn, 1) := by decide +kernel
theorem dc_L_record_30 : decode cd_L_record 30 = .ok (.iconst 0, 1) := by decide +kernel
theorem dc_L_record_31 : decode cd_L_record 31 = .ok (.ireturn, 1) := by decide +kernel
theorem dc_B_record_0 : decode cd_B_record 0 = .ok (.iload_n 1, 1) := by decide +kernel
theorem dc_B_record_1 : decode cd_B_record 1 = .ok (.iconst 1, 1) := by decide +kernel
theorem dc_B_record_2 : decode cd_B_record 2 = .ok (.if_icmp .lt 9, 3) := by decide +kernel
theorem dc_B_record_5 : decode cd_B_record 5 = .ok (.iload_n 1, 1) := by decide +kernel
theorem dc_B_record_6 : decode cd_B_record 6 = .ok (.bipush 100, 2) := by decide +kernel
theorem dc_B_record_8 : decode cd_B_record 8 = .ok (.if_icmp .le 13, 3) := by decide +kernel
theorem dc_B_record_11 : decode cd_B_record 11 = .ok (.new 57, 3) := by decide +kernel
theorem dc_B_record_14 : decode cd_B_record 14 = .ok (.dup, 1) := by decide +kernel
theorem dc_B_record_15 : decode cd_B_record 15 = .ok (.ldc 84, 2) := by decide +kernel
theorem dc_B_record_17 : decode cd_B_record 17 = .ok (.invokespecial 61, 3) := by decide +kernel
theorem dc_B_record_20 : decode cd_B_record 20 = .ok (.athrow, 1) := by decide +kernel
theorem dc_B_record_21 : decode cd_B_record 21 = .ok (.iload 4, 2) := by decide +kernel
theorem dc_B_record_23 : decode cd_B_record 23 = .ok (.iconst (-1), 1) := by decide +kernel
theorem dc_B_record_24 : decode cd_B_record 24 = .ok (.if_icmp .lt 10, 3) := by decide +kernel
theorem dc_B_record_27 : decode cd_B_record 27 = .ok (.iload 4, 2) := by decide +kernel
theorem dc_B_record_29 : decode cd_B_record 29 = .ok (.bipush 8, 2) := by decide +kernel
theorem dc_B_record_31 : decode cd_B_record 31 = .ok (.if_icmp .le 13, 3) := by decide +kernel
theorem dc_B_record_34 : decode cd_B_record 34 = .ok (.new 57, 3) := by decide +kernel
theorem dc_B_record_37 : decode cd_B_record 37 = .ok (.dup, 1) := by decide +kernel
theorem dc_B_record_38 : decode cd_B_record 38 = .ok (.ldc 86, 2) := by decide +kernel
theorem dc_B_record_40 : decode cd_B_record 40 = .ok (.invokespecial 61, 3) := by decide +kernel
theorem dc_B_record_43 : decode cd_B_record 43 = .ok (.athrow, 1) := by decide +kernel
theorem dc_B_record_44 : decode cd_B_record 44 = .ok (.iload 7, 2) := by decide +kernel
theorem dc_B_record_46 : decode cd_B_record 46 = .ok (.iconst (-1), 1) := by decide +kernel
theorem dc_B_record_47 : decode cd_B_record 47 = .ok (.if_icmp .lt 11, 3) := by decide +kernel
theorem dc_B_record_50 : decode cd_B_record 50 = .ok (.iload 7, 2) := by decide +kernel
theorem dc_B_record_52 : decode cd_B_record 52 = .ok (.sipush 300, 3) := by decide +kernel
theorem dc_B_record_55 : decode cd_B_record 55 = .ok (.if_icmp .le 13, 3) := by decide +kernel
theorem dc_B_record_58 : decode cd_B_record 58 = .ok (.new 57, 3) := by decide +kernel
theorem dc_B_record_61 : decode cd_B_record 61 = .ok (.dup, 1) := by decide +kernel
theorem dc_B_record_62 : decode cd_B_record 62 = .ok (.ldc 88, 2) := by decide +kernel
theorem dc_B_record_64 : decode cd_B_record 64 = .ok (.invokespecial 61, 3) := by decide +kernel
theorem dc_B_record_67 : decode cd_B_record 67 = .ok (.athrow, 1) := by decide +kernel
theorem dc_B_record_68 : decode cd_B_record 68 = .ok (.iload 8, 2) := by decide +kernel
theorem dc_B_record_70 : decode cd_B_record 70 = .ok (.ifCond .lt 10, 3) := by decide +kernel
theorem dc_B_record_73 : decode cd_B_record 73 = .ok (.iload 8, 2) := by decide +kernel
theorem dc_B_record_75 : decode cd_B_record 75 = .ok (.ldc 90, 2) := by decide +kernel
theorem dc_B_record_77 : decode cd_B_record 77 = .ok (.if_icmp .le 13, 3) := by decide +kernel
theorem dc_B_record_80 : decode cd_B_record 80 = .ok (.new 57, 3) := by decide +kernel
theorem dc_B_record_83 : decode cd_B_record 83 = .ok (.dup, 1) := by decide +kernel
theorem dc_B_record_84 : decode cd_B_record 84 = .ok (.ldc 91, 2) := by decide +kernel
theorem dc_B_record_86 : decode cd_B_record 86 = .ok (.invokespecial 61, 3) := by decide +kernel
theorem dc_B_record_89 : decode cd_B_record 89 = .ok (.athrow, 1) := by decide +kernel
theorem dc_B_record_90 : decode cd_B_record 90 = .ok (.new 93, 3) := by decide +kernel
theorem dc_B_record_93 : decode cd_B_record 93 = .ok (.dup, 1) := by decide +kernel
theorem dc_B_record_94 : decode cd_B_record 94 = .ok (.iload_n 1, 1) := by decide +kernel
theorem dc_B_record_95 : decode cd_B_record 95 = .ok (.lload_n 2, 1) := by decide +kernel
theorem dc_B_record_96 : decode cd_B_record 96 = .ok (.iload 4, 2) := by decide +kernel
theorem dc_B_record_98 : decode cd_B_record 98 = .ok (.lload 5, 2) := by decide +kernel
theorem dc_B_record_100 : decode cd_B_record 100 = .ok (.iload 7, 2) := by decide +kernel
theorem dc_B_record_102 : decode cd_B_record 102 = .ok (.iload 8, 2) := by decide +kernel
theorem dc_B_record_104 : decode cd_B_record 104 = .ok (.invokespecial 95, 3) := by decide +kernel
theorem dc_B_record_107 : decode cd_B_record 107 = .ok (.astore 9, 2) := by decide +kernel
theorem dc_B_record_109 : decode cd_B_record 109 = .ok (.aload 9, 2) := by decide +kernel
theorem dc_B_record_111 : decode cd_B_record 111 = .ok (.aload_n 0, 1) := by decide +kernel
theorem dc_B_record_112 : decode cd_B_record 112 = .ok (.getfield 19, 3) := by decide +kernel
theorem dc_B_record_115 : decode cd_B_record 115 = .ok (.getfield 98, 3) := by decide +kernel
theorem dc_B_record_118 : decode cd_B_record 118 = .ok (.invokevirtual 101, 3) := by decide +kernel
theorem dc_B_record_121 : decode cd_B_record 121 = .ok (.istore 10, 2) := by decide +kernel
theorem dc_B_record_123 : decode cd_B_record 123 = .ok (.aload_n 0, 1) := by decide +kernel
theorem dc_B_record_124 : decode cd_B_record 124 = .ok (.getfield 19, 3) := by decide +kernel
theorem dc_B_record_127 : decode cd_B_record 127 = .ok (.getfield 98, 3) := by decide +kernel
theorem dc_B_record_130 : decode cd_B_record 130 = .ok (.iload_n 1, 1) := by decide +kernel
theorem dc_B_record_131 : decode cd_B_record 131 = .ok (.iadd, 1) := by decide +kernel
theorem dc_B_record_132 : decode cd_B_record 132 = .ok (.sipush 1000, 3) := by decide +kernel
theorem dc_B_record_135 : decode cd_B_record 135 = .ok (.if_icmp .le 13, 3) := by decide +kernel
theorem dc_B_record_138 : decode cd_B_record 138 = .ok (.new 42, 3) := by decide +kernel
theorem dc_B_record_141 : decode cd_B_record 141 = .ok (.dup, 1) := by decide +kernel
theorem dc_B_record_142 : decode cd_B_record 142 = .ok (.ldc 104, 2) := by decide +kernel
theorem dc_B_record_144 : decode cd_B_record 144 = .ok (.invokespecial 46, 3) := by decide +kernel
theorem dc_B_record_147 : decode cd_B_record 147 = .ok (.athrow, 1) := by decide +kernel
theorem dc_B_record_148 : decode cd_B_record 148 = .ok (.aload_n 0, 1) := by decide +kernel
theorem dc_B_record_149 : decode cd_B_record 149 = .ok (.getfield 19, 3) := by decide +kernel
theorem dc_B_record_152 : decode cd_B_record 152 = .ok (.getfield 106, 3) := by decide +kernel
theorem dc_B_record_155 : decode cd_B_record 155 = .ok (.iload 10, 2) := by decide +kernel
theorem dc_B_record_157 : decode cd_B_record 157 = .ok (.iadd, 1) := by decide +kernel
theorem dc_B_record_158 : decode cd_B_record 158 = .ok (.sipush 16000, 3) := by decide +kernel
theorem dc_B_record_161 : decode cd_B_record 161 = .ok (.if_icmp .le 13, 3) := by decide +kernel
theorem dc_B_record_164 : decode cd_B_record 164 = .ok (.new 42, 3) := by decide +kernel
theorem dc_B_record_167 : decode cd_B_record 167 = .ok (.dup, 1) := by decide +kernel
theorem dc_B_record_168 : decode cd_B_record 168 = .ok (.ldc 109, 2) := by decide +kernel
theorem dc_B_record_170 : decode cd_B_record 170 = .ok (.invokespecial 46, 3) := by decide +kernel
theorem dc_B_record_173 : decode cd_B_record 173 = .ok (.athrow, 1) := by decide +kernel
theorem dc_B_record_174 : decode cd_B_record 174 = .ok (.aload_n 0, 1) := by decide +kernel
theorem dc_B_record_175 : decode cd_B_record 175 = .ok (.getfield 19, 3) := by decide +kernel
theorem dc_B_record_178 : decode cd_B_record 178 = .ok (.aload 9, 2) := by decide +kernel
theorem dc_B_record_180 : decode cd_B_record 180 = .ok (.iload 10, 2) := by decide +kernel
theorem dc_B_record_182 : decode cd_B_record 182 = .ok (.invokevirtual 111, 3) := by decide +kernel
theorem dc_B_record_185 : decode cd_B_record 185 = .ok (.aload_n 0, 1) := by decide +kernel
theorem dc_B_record_186 : decode cd_B_record 186 = .ok (.getfield 19, 3) := by decide +kernel
theorem dc_B_record_189 : decode cd_B_record 189 = .ok (.getfield 98, 3) := by decide +kernel
theorem dc_B_record_192 : decode cd_B_record 192 = .ok (.ireturn, 1) := by decide +kernel
theorem dc_G_init_0 : decode cd_G_init 0 = .ok (.aload_n 0, 1) := by decide +kernel
theorem dc_G_init_1 : decode cd_G_init 1 = .ok (.invokespecial 1, 3) := by decide +kernel
theorem dc_G_init_4 : decode cd_G_init 4 = .ok (.aload_n 0, 1) := by decide +kernel
theorem dc_G_init_5 : decode cd_G_init 5 = .ok (.iload_n 1, 1) := by decide +kernel
theorem dc_G_init_6 : decode cd_G_init 6 = .ok (.putfield 7, 3) := by decide +kernel
theorem dc_G_init_9 : decode cd_G_init 9 = .ok (.aload_n 0, 1) := by decide +kernel
theorem dc_G_init_10 : decode cd_G_init 10 = .ok (.lload_n 2, 1) := by decide +kernel
theorem dc_G_init_11 : decode cd_G_init 11 = .ok (.putfield 13, 3) := by decide +kernel
theorem dc_G_init_14 : decode cd_G_init 14 = .ok (.aload_n 0, 1) := by decide +kernel
theorem dc_G_init_15 : decode cd_G_init 15 = .ok (.iload 4, 2) := by decide +kernel
theorem dc_G_init_17 : decode cd_G_init 17 = .ok (.putfield 17, 3) := by decide +kernel
theorem dc_G_init_20 : decode cd_G_init 20 = .ok (.aload_n 0, 1) := by decide +kernel
theorem dc_G_init_21 : decode cd_G_init 21 = .ok (.lload 5, 2) := by decide +kernel
theorem dc_G_init_23 : decode cd_G_init 23 = .ok (.putfield 20, 3) := by decide +kernel
theorem dc_G_init_26 : decode cd_G_init 26 = .ok (.aload_n 0, 1) := by decide +kernel
theorem dc_G_init_27 : decode cd_G_init 27 = .ok (.iload 7, 2) := by decide +kernel
theorem dc_G_init_29 : decode cd_G_init 29 = .ok (.putfield 23, 3) := by decide +kernel
theorem dc_G_init_32 : decode cd_G_init 32 = .ok (.aload_n 0, 1) := by decide +kernel
theorem dc_G_init_33 : decode cd_G_init 33 = .ok (.iload 8, 2) := by decide +kernel
theorem dc_G_init_35 : decode cd_G_init 35 = .ok (.putfield 26, 3) := by decide +kernel
theorem dc_G_init_38 : decode cd_G_init 38 = .ok (.return_, 1) := by decide +kernel
theorem dc_G_bytesFrom_0 : decode cd_G_bytesFrom 0 = .ok (.iconst 0, 1) := by decide +kernel
theorem dc_G_bytesFrom_1 : decode cd_G_bytesFrom 1 = .ok (.istore_n 2, 1) := by decide +kernel
theorem dc_G_bytesFrom_2 : decode cd_G_bytesFrom 2 = .ok (.iconst 0, 1) := by decide +kernel
theorem dc_G_bytesFrom_3 : decode cd_G_bytesFrom 3 = .ok (.istore_n 3, 1) := by decide +kernel
theorem dc_G_bytesFrom_4 : decode cd_G_bytesFrom 4 = .ok (.iload_n 3, 1) := by decide +kernel
theorem dc_G_bytesFrom_5 : decode cd_G_bytesFrom 5 = .ok (.aload_n 0, 1) := by decide +kernel
theorem dc_G_bytesFrom_6 : decode cd_G_bytesFrom 6 = .ok (.getfield 7, 3) := by decide +kernel
theorem dc_G_bytesFrom_9 : decode cd_G_bytesFrom 9 = .ok (.if_icmp .ge 31, 3) := by decide +kernel
theorem dc_G_bytesFrom_12 : decode cd_G_bytesFrom 12 = .ok (.aload_n 0, 1) := by decide +kernel
theorem dc_G_bytesFrom_13 : decode cd_G_bytesFrom 13 = .ok (.iload_n 3, 1) := by decide +kernel
theorem dc_G_bytesFrom_14 : decode cd_G_bytesFrom 14 = .ok (.iload_n 1, 1) := by decide +kernel
theorem dc_G_bytesFrom_15 : decode cd_G_bytesFrom 15 = .ok (.iload_n 3, 1) := by decide +kernel
theorem dc_G_bytesFrom_16 : decode cd_G_bytesFrom 16 = .ok (.iadd, 1) := by decide +kernel
theorem dc_G_bytesFrom_17 : decode cd_G_bytesFrom 17 = .ok (.invokevirtual 29, 3) := by decide +kernel
theorem dc_G_bytesFrom_20 : decode cd_G_bytesFrom 20 = .ok (.istore 4, 2) := by decide +kernel
theorem dc_G_bytesFrom_22 : decode cd_G_bytesFrom 22 = .ok (.iload_n 2, 1) := by decide +kernel
theorem dc_G_bytesFrom_23 : decode cd_G_bytesFrom 23 = .ok (.iload 4, 2) := by decide +kernel
theorem dc_G_bytesFrom_25 : decode cd_G_bytesFrom 25 = .ok (.i2l, 1) := by decide +kernel
theorem dc_G_bytesFrom_26 : decode cd_G_bytesFrom 26 = .ok (.invokestatic 33, 3) := by decide +kernel
