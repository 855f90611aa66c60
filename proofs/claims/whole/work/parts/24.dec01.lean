theorem dc_G_bytesFrom_29 : decode cd_G_bytesFrom 29 = .ok (.iload 4, 2) := by decide +kernel
theorem dc_G_bytesFrom_31 : decode cd_G_bytesFrom 31 = .ok (.iadd, 1) := by decide +kernel
theorem dc_G_bytesFrom_32 : decode cd_G_bytesFrom 32 = .ok (.iadd, 1) := by decide +kernel
theorem dc_G_bytesFrom_33 : decode cd_G_bytesFrom 33 = .ok (.istore_n 2, 1) := by decide +kernel
theorem dc_G_bytesFrom_34 : decode cd_G_bytesFrom 34 = .ok (.iinc 3 1, 3) := by decide +kernel
theorem dc_G_bytesFrom_37 : decode cd_G_bytesFrom 37 = .ok (.goto (-33), 3) := by decide +kernel
theorem dc_G_bytesFrom_40 : decode cd_G_bytesFrom 40 = .ok (.iload_n 2, 1) := by decide +kernel
theorem dc_G_bytesFrom_41 : decode cd_G_bytesFrom 41 = .ok (.ireturn, 1) := by decide +kernel
theorem dc_G_bytesBehindLength_0 : decode cd_G_bytesBehindLength 0 = .ok (.iconst 2, 1) := by decide +kernel
theorem dc_G_bytesBehindLength_1 : decode cd_G_bytesBehindLength 1 = .ok (.aload_n 0, 1) := by decide +kernel
theorem dc_G_bytesBehindLength_2 : decode cd_G_bytesBehindLength 2 = .ok (.getfield 26, 3) := by decide +kernel
theorem dc_G_bytesBehindLength_5 : decode cd_G_bytesBehindLength 5 = .ok (.iload_n 1, 1) := by decide +kernel
theorem dc_G_bytesBehindLength_6 : decode cd_G_bytesBehindLength 6 = .ok (.iadd, 1) := by decide +kernel
theorem dc_G_bytesBehindLength_7 : decode cd_G_bytesBehindLength 7 = .ok (.i2l, 1) := by decide +kernel
theorem dc_G_bytesBehindLength_8 : decode cd_G_bytesBehindLength 8 = .ok (.invokestatic 33, 3) := by decide +kernel
theorem dc_G_bytesBehindLength_11 : decode cd_G_bytesBehindLength 11 = .ok (.iadd, 1) := by decide +kernel
theorem dc_G_bytesBehindLength_12 : decode cd_G_bytesBehindLength 12 = .ok (.iload_n 2, 1) := by decide +kernel
theorem dc_G_bytesBehindLength_13 : decode cd_G_bytesBehindLength 13 = .ok (.i2l, 1) := by decide +kernel
theorem dc_G_bytesBehindLength_14 : decode cd_G_bytesBehindLength 14 = .ok (.invokestatic 33, 3) := by decide +kernel
theorem dc_G_bytesBehindLength_17 : decode cd_G_bytesBehindLength 17 = .ok (.iadd, 1) := by decide +kernel
theorem dc_G_bytesBehindLength_18 : decode cd_G_bytesBehindLength 18 = .ok (.aload_n 0, 1) := by decide +kernel
theorem dc_G_bytesBehindLength_19 : decode cd_G_bytesBehindLength 19 = .ok (.getfield 17, 3) := by decide +kernel
theorem dc_G_bytesBehindLength_22 : decode cd_G_bytesBehindLength 22 = .ok (.invokestatic 39, 3) := by decide +kernel
theorem dc_G_bytesBehindLength_25 : decode cd_G_bytesBehindLength 25 = .ok (.iadd, 1) := by decide +kernel
theorem dc_G_bytesBehindLength_26 : decode cd_G_bytesBehindLength 26 = .ok (.aload_n 0, 1) := by decide +kernel
theorem dc_G_bytesBehindLength_27 : decode cd_G_bytesBehindLength 27 = .ok (.getfield 23, 3) := by decide +kernel
theorem dc_G_bytesBehindLength_30 : decode cd_G_bytesBehindLength 30 = .ok (.invokestatic 39, 3) := by decide +kernel
theorem dc_G_bytesBehindLength_33 : decode cd_G_bytesBehindLength 33 = .ok (.iadd, 1) := by decide +kernel
theorem dc_G_bytesBehindLength_34 : decode cd_G_bytesBehindLength 34 = .ok (.ireturn, 1) := by decide +kernel
theorem dc_B_varintBytes_0 : decode cd_B_varintBytes 0 = .ok (.lload_n 0, 1) := by decide +kernel
theorem dc_B_varintBytes_1 : decode cd_B_varintBytes 1 = .ok (.invokestatic 235, 3) := by decide +kernel
theorem dc_B_varintBytes_4 : decode cd_B_varintBytes 4 = .ok (.bipush 7, 2) := by decide +kernel
theorem dc_B_varintBytes_6 : decode cd_B_varintBytes 6 = .ok (.lushr, 1) := by decide +kernel
theorem dc_B_varintBytes_7 : decode cd_B_varintBytes 7 = .ok (.lstore_n 2, 1) := by decide +kernel
theorem dc_B_varintBytes_8 : decode cd_B_varintBytes 8 = .ok (.iconst 1, 1) := by decide +kernel
theorem dc_B_varintBytes_9 : decode cd_B_varintBytes 9 = .ok (.istore 4, 2) := by decide +kernel
theorem dc_B_varintBytes_11 : decode cd_B_varintBytes 11 = .ok (.iconst 1, 1) := by decide +kernel
theorem dc_B_varintBytes_12 : decode cd_B_varintBytes 12 = .ok (.istore 5, 2) := by decide +kernel
theorem dc_B_varintBytes_14 : decode cd_B_varintBytes 14 = .ok (.iload 5, 2) := by decide +kernel
theorem dc_B_varintBytes_16 : decode cd_B_varintBytes 16 = .ok (.bipush 10, 2) := by decide +kernel
theorem dc_B_varintBytes_18 : decode cd_B_varintBytes 18 = .ok (.if_icmp .ge 23, 3) := by decide +kernel
theorem dc_B_varintBytes_21 : decode cd_B_varintBytes 21 = .ok (.lload_n 2, 1) := by decide +kernel
theorem dc_B_varintBytes_22 : decode cd_B_varintBytes 22 = .ok (.lconst 0, 1) := by decide +kernel
theorem dc_B_varintBytes_23 : decode cd_B_varintBytes 23 = .ok (.lcmp, 1) := by decide +kernel
theorem dc_B_varintBytes_24 : decode cd_B_varintBytes 24 = .ok (.ifCond .eq 17, 3) := by decide +kernel
theorem dc_B_varintBytes_27 : decode cd_B_varintBytes 27 = .ok (.lload_n 2, 1) := by decide +kernel
theorem dc_B_varintBytes_28 : decode cd_B_varintBytes 28 = .ok (.bipush 7, 2) := by decide +kernel
theorem dc_B_varintBytes_30 : decode cd_B_varintBytes 30 = .ok (.lushr, 1) := by decide +kernel
theorem dc_B_varintBytes_31 : decode cd_B_varintBytes 31 = .ok (.lstore_n 2, 1) := by decide +kernel
theorem dc_B_varintBytes_32 : decode cd_B_varintBytes 32 = .ok (.iinc 4 1, 3) := by decide +kernel
theorem dc_B_varintBytes_35 : decode cd_B_varintBytes 35 = .ok (.iinc 5 1, 3) := by decide +kernel
theorem dc_B_varintBytes_38 : decode cd_B_varintBytes 38 = .ok (.goto (-24), 3) := by decide +kernel
theorem dc_B_varintBytes_41 : decode cd_B_varintBytes 41 = .ok (.iload 4, 2) := by decide +kernel
theorem dc_B_varintBytes_43 : decode cd_B_varintBytes 43 = .ok (.ireturn, 1) := by decide +kernel
theorem dc_B_folded_0 : decode cd_B_folded 0 = .ok (.lload_n 0, 1) := by decide +kernel
theorem dc_B_folded_1 : decode cd_B_folded 1 = .ok (.iconst 1, 1) := by decide +kernel
theorem dc_B_folded_2 : decode cd_B_folded 2 = .ok (.lshl, 1) := by decide +kernel
theorem dc_B_folded_3 : decode cd_B_folded 3 = .ok (.lload_n 0, 1) := by decide +kernel
theorem dc_B_folded_4 : decode cd_B_folded 4 = .ok (.bipush 63, 2) := by decide +kernel
theorem dc_B_folded_6 : decode cd_B_folded 6 = .ok (.lshr, 1) := by decide +kernel
theorem dc_B_folded_7 : decode cd_B_folded 7 = .ok (.lxor, 1) := by decide +kernel
theorem dc_B_folded_8 : decode cd_B_folded 8 = .ok (.lreturn, 1) := by decide +kernel
theorem dc_G_partBytes_0 : decode cd_G_partBytes 0 = .ok (.iload_n 0, 1) := by decide +kernel
theorem dc_G_partBytes_1 : decode cd_G_partBytes 1 = .ok (.i2l, 1) := by decide +kernel
theorem dc_G_partBytes_2 : decode cd_G_partBytes 2 = .ok (.invokestatic 33, 3) := by decide +kernel
theorem dc_G_partBytes_5 : decode cd_G_partBytes 5 = .ok (.iload_n 0, 1) := by decide +kernel
theorem dc_G_partBytes_6 : decode cd_G_partBytes 6 = .ok (.iconst 0, 1) := by decide +kernel
theorem dc_G_partBytes_7 : decode cd_G_partBytes 7 = .ok (.invokestatic 43, 3) := by decide +kernel
theorem dc_G_partBytes_10 : decode cd_G_partBytes 10 = .ok (.iadd, 1) := by decide +kernel
theorem dc_G_partBytes_11 : decode cd_G_partBytes 11 = .ok (.ireturn, 1) := by decide +kernel
theorem dc_D_add_0 : decode cd_D_add 0 = .ok (.aload_n 0, 1) := by decide +kernel
theorem dc_D_add_1 : decode cd_D_add 1 = .ok (.getfield 10, 3) := by decide +kernel
theorem dc_D_add_4 : decode cd_D_add 4 = .ok (.aload_n 1, 1) := by decide +kernel
theorem dc_D_add_5 : decode cd_D_add 5 = .ok (.invokevirtual 26, 3) := by decide +kernel
theorem dc_D_add_8 : decode cd_D_add 8 = .ok (.pop, 1) := by decide +kernel
theorem dc_D_add_9 : decode cd_D_add 9 = .ok (.aload_n 0, 1) := by decide +kernel
theorem dc_D_add_10 : decode cd_D_add 10 = .ok (.dup, 1) := by decide +kernel
theorem dc_D_add_11 : decode cd_D_add 11 = .ok (.getfield 16, 3) := by decide +kernel
theorem dc_D_add_14 : decode cd_D_add 14 = .ok (.aload_n 1, 1) := by decide +kernel
theorem dc_D_add_15 : decode cd_D_add 15 = .ok (.getfield 30, 3) := by decide +kernel
theorem dc_D_add_18 : decode cd_D_add 18 = .ok (.iadd, 1) := by decide +kernel
theorem dc_D_add_19 : decode cd_D_add 19 = .ok (.putfield 16, 3) := by decide +kernel
theorem dc_D_add_22 : decode cd_D_add 22 = .ok (.aload_n 0, 1) := by decide +kernel
theorem dc_D_add_23 : decode cd_D_add 23 = .ok (.dup, 1) := by decide +kernel
theorem dc_D_add_24 : decode cd_D_add 24 = .ok (.getfield 20, 3) := by decide +kernel
theorem dc_D_add_27 : decode cd_D_add 27 = .ok (.iload_n 2, 1) := by decide +kernel
theorem dc_D_add_28 : decode cd_D_add 28 = .ok (.iadd, 1) := by decide +kernel
theorem dc_D_add_29 : decode cd_D_add 29 = .ok (.putfield 20, 3) := by decide +kernel
theorem dc_D_add_32 : decode cd_D_add 32 = .ok (.aload_n 0, 1) := by decide +kernel
theorem dc_D_add_33 : decode cd_D_add 33 = .ok (.aload_n 0, 1) := by decide +kernel
theorem dc_D_add_34 : decode cd_D_add 34 = .ok (.getfield 23, 3) := by decide +kernel
theorem dc_D_add_37 : decode cd_D_add 37 = .ok (.aload_n 1, 1) := by decide +kernel
theorem dc_D_add_38 : decode cd_D_add 38 = .ok (.getfield 35, 3) := by decide +kernel
theorem dc_D_add_41 : decode cd_D_add 41 = .ok (.aload_n 1, 1) := by decide +kernel
theorem dc_D_add_42 : decode cd_D_add 42 = .ok (.getfield 30, 3) := by decide +kernel
theorem dc_D_add_45 : decode cd_D_add 45 = .ok (.iadd, 1) := by decide +kernel
theorem dc_D_add_46 : decode cd_D_add 46 = .ok (.iconst 1, 1) := by decide +kernel
theorem dc_D_add_47 : decode cd_D_add 47 = .ok (.isub, 1) := by decide +kernel
theorem dc_D_add_48 : decode cd_D_add 48 = .ok (.invokestatic 38, 3) := by decide +kernel
theorem dc_D_add_51 : decode cd_D_add 51 = .ok (.putfield 23, 3) := by decide +kernel
theorem dc_D_add_54 : decode cd_D_add 54 = .ok (.return_, 1) := by decide +kernel
theorem dc_A_add_0 : decode cd_A_add 0 = .ok (.aload_n 0, 1) := by decide +kernel
theorem dc_A_add_1 : decode cd_A_add 1 = .ok (.dup, 1) := by decide +kernel
theorem dc_A_add_2 : decode cd_A_add 2 = .ok (.getfield 63, 3) := by decide +kernel
theorem dc_A_add_5 : decode cd_A_add 5 = .ok (.iconst 1, 1) := by decide +kernel
theorem dc_A_add_6 : decode cd_A_add 6 = .ok (.iadd, 1) := by decide +kernel
theorem dc_A_add_7 : decode cd_A_add 7 = .ok (.putfield 63, 3) := by decide +kernel
theorem dc_A_add_10 : decode cd_A_add 10 = .ok (.aload_n 0, 1) := by decide +kernel
theorem dc_A_add_11 : decode cd_A_add 11 = .ok (.aload_n 1, 1) := by decide +kernel
theorem dc_A_add_12 : decode cd_A_add 12 = .ok (.aload_n 0, 1) := by decide +kernel
theorem dc_A_add_13 : decode cd_A_add 13 = .ok (.getfield 9, 3) := by decide +kernel
theorem dc_A_add_16 : decode cd_A_add 16 = .ok (.aload_n 0, 1) := by decide +kernel
theorem dc_A_add_17 : decode cd_A_add 17 = .ok (.getfield 48, 3) := by decide +kernel
theorem dc_A_add_20 : decode cd_A_add 20 = .ok (.invokevirtual 131, 3) := by decide +kernel
theorem dc_A_add_23 : decode cd_A_add 23 = .ok (.iconst 1, 1) := by decide +kernel
theorem dc_A_add_24 : decode cd_A_add 24 = .ok (.ireturn, 1) := by decide +kernel
theorem dc_A_add1_0 : decode cd_A_add1 0 = .ok (.iload_n 3, 1) := by decide +kernel
theorem dc_A_add1_1 : decode cd_A_add1 1 = .ok (.aload_n 2, 1) := by decide +kernel
theorem dc_A_add1_2 : decode cd_A_add1 2 = .ok (.arraylength, 1) := by decide +kernel
theorem dc_A_add1_3 : decode cd_A_add1 3 = .ok (.if_icmp .ne 8, 3) := by decide +kernel
theorem dc_A_add1_6 : decode cd_A_add1 6 = .ok (.aload_n 0, 1) := by decide +kernel
theorem dc_A_add1_7 : decode cd_A_add1 7 = .ok (.invokevirtual 129, 3) := by decide +kernel
theorem dc_A_add1_10 : decode cd_A_add1 10 = .ok (.astore_n 2, 1) := by decide +kernel
theorem dc_A_add1_11 : decode cd_A_add1 11 = .ok (.aload_n 2, 1) := by decide +kernel
theorem dc_A_add1_12 : decode cd_A_add1 12 = .ok (.iload_n 3, 1) := by decide +kernel
theorem dc_A_add1_13 : decode cd_A_add1 13 = .ok (.aload_n 1, 1) := by decide +kernel
theorem dc_A_add1_14 : decode cd_A_add1 14 = .ok (.aastore, 1) := by decide +kernel
theorem dc_A_add1_15 : decode cd_A_add1 15 = .ok (.aload_n 0, 1) := by decide +kernel
theorem dc_A_add1_16 : decode cd_A_add1 16 = .ok (.iload_n 3, 1) := by decide +kernel
theorem dc_A_add1_17 : decode cd_A_add1 17 = .ok (.iconst 1, 1) := by decide +kernel
theorem dc_A_add1_18 : decode cd_A_add1 18 = .ok (.iadd, 1) := by decide +kernel
theorem dc_A_add1_19 : decode cd_A_add1 19 = .ok (.putfield 48, 3) := by decide +kernel
theorem dc_A_add1_22 : decode cd_A_add1 22 = .ok (.return_, 1) := by decide +kernel
theorem dc_A_grow_0 : decode cd_A_grow 0 = .ok (.aload_n 0, 1) := by decide +kernel
theorem dc_A_grow_1 : decode cd_A_grow 1 = .ok (.aload_n 0, 1) := by decide +kernel
theorem dc_A_grow_2 : decode cd_A_grow 2 = .ok (.getfield 48, 3) := by decide +kernel
theorem dc_A_grow_5 : decode cd_A_grow 5 = .ok (.iconst 1, 1) := by decide +kernel
theorem dc_A_grow_6 : decode cd_A_grow 6 = .ok (.iadd, 1) := by decide +kernel
theorem dc_A_grow_7 : decode cd_A_grow 7 = .ok (.invokevirtual 69, 3) := by decide +kernel
theorem dc_A_grow_10 : decode cd_A_grow 10 = .ok (.areturn, 1) := by decide +kernel
theorem dc_A_grow1_0 : decode cd_A_grow1 0 = .ok (.aload_n 0, 1) := by decide +kernel
theorem dc_A_grow1_1 : decode cd_A_grow1 1 = .ok (.getfield 9, 3) := by decide +kernel
theorem dc_A_grow1_4 : decode cd_A_grow1 4 = .ok (.arraylength, 1) := by decide +kernel
theorem dc_A_grow1_5 : decode cd_A_grow1 5 = .ok (.istore_n 2, 1) := by decide +kernel
theorem dc_A_grow1_6 : decode cd_A_grow1 6 = .ok (.iload_n 2, 1) := by decide +kernel
theorem dc_A_grow1_7 : decode cd_A_grow1 7 = .ok (.ifCond .gt 13, 3) := by decide +kernel
theorem dc_A_grow1_10 : decode cd_A_grow1 10 = .ok (.aload_n 0, 1) := by decide +kernel
theorem dc_A_grow1_11 : decode cd_A_grow1 11 = .ok (.getfield 9, 3) := by decide +kernel
theorem dc_A_grow1_14 : decode cd_A_grow1 14 = .ok (.getstatic 39, 3) := by decide +kernel
theorem dc_A_grow1_17 : decode cd_A_grow1 17 = .ok (.if_acmp .eq 28, 3) := by decide +kernel
theorem dc_A_grow1_20 : decode cd_A_grow1 20 = .ok (.iload_n 2, 1) := by decide +kernel
theorem dc_A_grow1_21 : decode cd_A_grow1 21 = .ok (.iload_n 1, 1) := by decide +kernel
theorem dc_A_grow1_22 : decode cd_A_grow1 22 = .ok (.iload_n 2, 1) := by decide +kernel
theorem dc_A_grow1_23 : decode cd_A_grow1 23 = .ok (.isub, 1) := by decide +kernel
theorem dc_A_grow1_24 : decode cd_A_grow1 24 = .ok (.iload_n 2, 1) := by decide +kernel
theorem dc_A_grow1_25 : decode cd_A_grow1 25 = .ok (.iconst 1, 1) := by decide +kernel
theorem dc_A_grow1_26 : decode cd_A_grow1 26 = .ok (.ishr, 1) := by decide +kernel
theorem dc_A_grow1_27 : decode cd_A_grow1 27 = .ok (.invokestatic 73, 3) := by decide +kernel
theorem dc_A_grow1_30 : decode cd_A_grow1 30 = .ok (.istore_n 3, 1) := by decide +kernel
theorem dc_A_grow1_31 : decode cd_A_grow1 31 = .ok (.aload_n 0, 1) := by decide +kernel
theorem dc_A_grow1_32 : decode cd_A_grow1 32 = .ok (.aload_n 0, 1) := by decide +kernel
theorem dc_A_grow1_33 : decode cd_A_grow1 33 = .ok (.getfield 9, 3) := by decide +kernel
theorem dc_A_grow1_36 : decode cd_A_grow1 36 = .ok (.iload_n 3, 1) := by decide +kernel
theorem dc_A_grow1_37 : decode cd_A_grow1 37 = .ok (.invokestatic 66, 3) := by decide +kernel
theorem dc_A_grow1_40 : decode cd_A_grow1 40 = .ok (.dup_x1, 1) := by decide +kernel
theorem dc_A_grow1_41 : decode cd_A_grow1 41 = .ok (.putfield 9, 3) := by decide +kernel
theorem dc_A_grow1_44 : decode cd_A_grow1 44 = .ok (.areturn, 1) := by decide +kernel
theorem dc_A_grow1_45 : decode cd_A_grow1 45 = .ok (.aload_n 0, 1) := by decide +kernel
theorem dc_A_grow1_46 : decode cd_A_grow1 46 = .ok (.bipush 10, 2) := by decide +kernel
theorem dc_A_grow1_48 : decode cd_A_grow1 48 = .ok (.iload_n 1, 1) := by decide +kernel
theorem dc_A_grow1_49 : decode cd_A_grow1 49 = .ok (.invokestatic 79, 3) := by decide +kernel
theorem dc_A_grow1_52 : decode cd_A_grow1 52 = .ok (.anewarray 7, 3) := by decide +kernel
theorem dc_A_grow1_55 : decode cd_A_grow1 55 = .ok (.dup_x1, 1) := by decide +kernel
theorem dc_A_grow1_56 : decode cd_A_grow1 56 = .ok (.putfield 9, 3) := by decide +kernel
theorem dc_A_grow1_59 : decode cd_A_grow1 59 = .ok (.areturn, 1) := by decide +kernel
theorem dc_AS_newLength_0 : decode cd_AS_newLength 0 = .ok (.iload_n 0, 1) := by decide +kernel
theorem dc_AS_newLength_1 : decode cd_AS_newLength 1 = .ok (.iload_n 1, 1) := by decide +kernel
theorem dc_AS_newLength_2 : decode cd_AS_newLength 2 = .ok (.iload_n 2, 1) := by decide +kernel
theorem dc_AS_newLength_3 : decode cd_AS_newLength 3 = .ok (.invokestatic 194, 3) := by decide +kernel
theorem dc_AS_newLength_6 : decode cd_AS_newLength 6 = .ok (.iadd, 1) := by decide +kernel
theorem dc_AS_newLength_7 : decode cd_AS_newLength 7 = .ok (.istore_n 3, 1) := by decide +kernel
theorem dc_AS_newLength_8 : decode cd_AS_newLength 8 = .ok (.iconst 0, 1) := by decide +kernel
theorem dc_AS_newLength_9 : decode cd_AS_newLength 9 = .ok (.iload_n 3, 1) := by decide +kernel
theorem dc_AS_newLength_10 : decode cd_AS_newLength 10 = .ok (.if_icmp .ge 11, 3) := by decide +kernel
theorem dc_AS_newLength_13 : decode cd_AS_newLength 13 = .ok (.iload_n 3, 1) := by decide +kernel
theorem dc_AS_newLength_14 : decode cd_AS_newLength 14 = .ok (.ldc 200, 2) := by decide +kernel
theorem dc_AS_newLength_16 : decode cd_AS_newLength 16 = .ok (.if_icmp .gt 5, 3) := by decide +kernel
theorem dc_AS_newLength_19 : decode cd_AS_newLength 19 = .ok (.iload_n 3, 1) := by decide +kernel
theorem dc_AS_newLength_20 : decode cd_AS_newLength 20 = .ok (.ireturn, 1) := by decide +kernel
theorem dc_AS_newLength_21 : decode cd_AS_newLength 21 = .ok (.iload_n 0, 1) := by decide +kernel
theorem dc_AS_newLength_22 : decode cd_AS_newLength 22 = .ok (.iload_n 1, 1) := by decide +kernel
theorem dc_AS_newLength_23 : decode cd_AS_newLength 23 = .ok (.invokestatic 201, 3) := by decide +kernel
theorem dc_AS_newLength_26 : decode cd_AS_newLength 26 = .ok (.ireturn, 1) := by decide +kernel
theorem dc_AS_hugeLength_0 : decode cd_AS_hugeLength 0 = .ok (.iload_n 0, 1) := by decide +kernel
theorem dc_AS_hugeLength_1 : decode cd_AS_hugeLength 1 = .ok (.iload_n 1, 1) := by decide +kernel
theorem dc_AS_hugeLength_2 : decode cd_AS_hugeLength 2 = .ok (.iadd, 1) := by decide +kernel
theorem dc_AS_hugeLength_3 : decode cd_AS_hugeLength 3 = .ok (.istore_n 2, 1) := by decide +kernel
theorem dc_AS_hugeLength_4 : decode cd_AS_hugeLength 4 = .ok (.iload_n 2, 1) := by decide +kernel
theorem dc_AS_hugeLength_5 : decode cd_AS_hugeLength 5 = .ok (.ifCond .ge 44, 3) := by decide +kernel
theorem dc_AS_hugeLength_8 : decode cd_AS_hugeLength 8 = .ok (.new 204, 3) := by decide +kernel
theorem dc_AS_hugeLength_11 : decode cd_AS_hugeLength 11 = .ok (.dup, 1) := by decide +kernel
theorem dc_AS_hugeLength_12 : decode cd_AS_hugeLength 12 = .ok (.new 89, 3) := by decide +kernel
theorem dc_AS_hugeLength_15 : decode cd_AS_hugeLength 15 = .ok (.dup, 1) := by decide +kernel
theorem dc_AS_hugeLength_16 : decode cd_AS_hugeLength 16 = .ok (.invokespecial 91, 3) := by decide +kernel
theorem dc_AS_hugeLength_19 : decode cd_AS_hugeLength 19 = .ok (.ldc 206, 2) := by decide +kernel
theorem dc_AS_hugeLength_21 : decode cd_AS_hugeLength 21 = .ok (.invokevirtual 94, 3) := by decide +kernel
theorem dc_AS_hugeLength_24 : decode cd_AS_hugeLength 24 = .ok (.iload_n 0, 1) := by decide +kernel
theorem dc_AS_hugeLength_25 : decode cd_AS_hugeLength 25 = .ok (.invokevirtual 98, 3) := by decide +kernel
theorem dc_AS_hugeLength_28 : decode cd_AS_hugeLength 28 = .ok (.ldc 208, 2) := by decide +kernel
theorem dc_AS_hugeLength_30 : decode cd_AS_hugeLength 30 = .ok (.invokevirtual 94, 3) := by decide +kernel
theorem dc_AS_hugeLength_33 : decode cd_AS_hugeLength 33 = .ok (.iload_n 1, 1) := by decide +kernel
theorem dc_AS_hugeLength_34 : decode cd_AS_hugeLength 34 = .ok (.invokevirtual 98, 3) := by decide +kernel
theorem dc_AS_hugeLength_37 : decode cd_AS_hugeLength 37 = .ok (.ldc 210, 2) := by decide +kernel
theorem dc_AS_hugeLength_39 : decode cd_AS_hugeLength 39 = .ok (.invokevirtual 94, 3) := by decide +kernel
theorem dc_AS_hugeLength_42 : decode cd_AS_hugeLength 42 = .ok (.invokevirtual 101, 3) := by decide +kernel
theorem dc_AS_hugeLength_45 : decode cd_AS_hugeLength 45 = .ok (.invokespecial 212, 3) := by decide +kernel
theorem dc_AS_hugeLength_48 : decode cd_AS_hugeLength 48 = .ok (.athrow, 1) := by decide +kernel
theorem dc_AS_hugeLength_49 : decode cd_AS_hugeLength 49 = .ok (.iload_n 2, 1) := by decide +kernel
theorem dc_AS_hugeLength_50 : decode cd_AS_hugeLength 50 = .ok (.ldc 200, 2) := by decide +kernel
theorem dc_AS_hugeLength_52 : decode cd_AS_hugeLength 52 = .ok (.if_icmp .gt 6, 3) := by decide +kernel
theorem dc_AS_hugeLength_55 : decode cd_AS_hugeLength 55 = .ok (.ldc 200, 2) := by decide +kernel
theorem dc_AS_hugeLength_57 : decode cd_AS_hugeLength 57 = .ok (.ireturn, 1) := by decide +kernel
theorem dc_AS_hugeLength_58 : decode cd_AS_hugeLength 58 = .ok (.iload_n 2, 1) := by decide +kernel
theorem dc_AS_hugeLength_59 : decode cd_AS_hugeLength 59 = .ok (.ireturn, 1) := by decide +kernel
theorem dc_AR_copyOf1_0 : decode cd_AR_copyOf1 0 = .ok (.aload_n 0, 1) := by decide +kernel
theorem dc_AR_copyOf1_1 : decode cd_AR_copyOf1 1 = .ok (.iload_n 1, 1) := by decide +kernel
theorem dc_AR_copyOf1_2 : decode cd_AR_copyOf1 2 = .ok (.aload_n 0, 1) := by decide +kernel
theorem dc_AR_copyOf1_3 : decode cd_AR_copyOf1 3 = .ok (.invokevirtual 86, 3) := by decide +kernel
theorem dc_AR_copyOf1_6 : decode cd_AR_copyOf1 6 = .ok (.invokestatic 300, 3) := by decide +kernel
theorem dc_AR_copyOf1_9 : decode cd_AR_copyOf1 9 = .ok (.areturn, 1) := by decide +kernel
theorem dc_AR_copyOf2_0 : decode cd_AR_copyOf2 0 = .ok (.aload_n 2, 1) := by decide +kernel
theorem dc_AR_copyOf2_1 : decode cd_AR_copyOf2 1 = .ok (.ldc 110, 2) := by decide +kernel
theorem dc_AR_copyOf2_3 : decode cd_AR_copyOf2 3 = .ok (.if_acmp .ne 10, 3) := by decide +kernel
theorem dc_AR_copyOf2_6 : decode cd_AR_copyOf2 6 = .ok (.iload_n 1, 1) := by decide +kernel
theorem dc_AR_copyOf2_7 : decode cd_AR_copyOf2 7 = .ok (.anewarray 2, 3) := by decide +kernel
theorem dc_AR_copyOf2_10 : decode cd_AR_copyOf2 10 = .ok (.goto 14, 3) := by decide +kernel
theorem dc_AR_copyOf2_13 : decode cd_AR_copyOf2 13 = .ok (.aload_n 2, 1) := by decide +kernel
theorem dc_AR_copyOf2_14 : decode cd_AR_copyOf2 14 = .ok (.invokevirtual 90, 3) := by decide +kernel
theorem dc_AR_copyOf2_17 : decode cd_AR_copyOf2 17 = .ok (.iload_n 1, 1) := by decide +kernel
theorem dc_AR_copyOf2_18 : decode cd_AR_copyOf2 18 = .ok (.invokestatic 95, 3) := by decide +kernel
theorem dc_AR_copyOf2_21 : decode cd_AR_copyOf2 21 = .ok (.checkcast 110, 3) := by decide +kernel
theorem dc_AR_copyOf2_24 : decode cd_AR_copyOf2 24 = .ok (.astore_n 3, 1) := by decide +kernel
theorem dc_AR_copyOf2_25 : decode cd_AR_copyOf2 25 = .ok (.aload_n 0, 1) := by decide +kernel
theorem dc_AR_copyOf2_26 : decode cd_AR_copyOf2 26 = .ok (.iconst 0, 1) := by decide +kernel
theorem dc_AR_copyOf2_27 : decode cd_AR_copyOf2 27 = .ok (.aload_n 3, 1) := by decide +kernel
theorem dc_AR_copyOf2_28 : decode cd_AR_copyOf2 28 = .ok (.iconst 0, 1) := by decide +kernel
theorem dc_AR_copyOf2_29 : decode cd_AR_copyOf2 29 = .ok (.aload_n 0, 1) := by decide +kernel
theorem dc_AR_copyOf2_30 : decode cd_AR_copyOf2 30 = .ok (.arraylength, 1) := by decide +kernel
theorem dc_AR_copyOf2_31 : decode cd_AR_copyOf2 31 = .ok (.iload_n 1, 1) := by decide +kernel
theorem dc_AR_copyOf2_32 : decode cd_AR_copyOf2 32 = .ok (.invokestatic 304, 3) := by decide +kernel
theorem dc_AR_copyOf2_35 : decode cd_AR_copyOf2 35 = .ok (.invokestatic 150, 3) := by decide +kernel
theorem dc_AR_copyOf2_38 : decode cd_AR_copyOf2 38 = .ok (.aload_n 3, 1) := by decide +kernel
theorem dc_AR_copyOf2_39 : decode cd_AR_copyOf2 39 = .ok (.areturn, 1) := by decide +kernel
theorem dc_L_seal_0 : decode cd_L_seal 0 = .ok (.aload 7, 2) := by decide +kernel
theorem dc_L_seal_2 : decode cd_L_seal 2 = .ok (.iconst 0, 1) := by decide +kernel
theorem dc_L_seal_3 : decode cd_L_seal 3 = .ok (.aload_n 0, 1) := by decide +kernel
theorem dc_L_seal_4 : decode cd_L_seal 4 = .ok (.lload_n 1, 1) := by decide +kernel
theorem dc_L_seal_5 : decode cd_L_seal 5 = .ok (.iload_n 3, 1) := by decide +kernel
theorem dc_L_seal_6 : decode cd_L_seal 6 = .ok (.iload 4, 2) := by decide +kernel
theorem dc_L_seal_8 : decode cd_L_seal 8 = .ok (.lload 5, 2) := by decide +kernel
theorem dc_L_seal_10 : decode cd_L_seal 10 = .ok (.invokevirtual 29, 3) := by decide +kernel
theorem dc_L_seal_13 : decode cd_L_seal 13 = .ok (.i2l, 1) := by decide +kernel
theorem dc_L_seal_14 : decode cd_L_seal 14 = .ok (.lastore, 1) := by decide +kernel
theorem dc_L_seal_15 : decode cd_L_seal 15 = .ok (.goto 11, 3) := by decide +kernel
theorem dc_L_seal_18 : decode cd_L_seal 18 = .ok (.astore 8, 2) := by decide +kernel
theorem dc_L_seal_20 : decode cd_L_seal 20 = .ok (.iconst 1, 1) := by decide +kernel
theorem dc_L_seal_21 : decode cd_L_seal 21 = .ok (.ireturn, 1) := by decide +kernel
theorem dc_L_seal_22 : decode cd_L_seal 22 = .ok (.astore 8, 2) := by decide +kernel
theorem dc_L_seal_24 : decode cd_L_seal 24 = .ok (.iconst 2, 1) := by decide +kernel
theorem dc_L_seal_25 : decode cd_L_seal 25 = .ok (.ireturn, 1) := by decide +kernel
theorem dc_L_seal_26 : decode cd_L_seal 26 = .ok (.iconst 0, 1) := by decide +kernel
theorem dc_L_seal_27 : decode cd_L_seal 27 = .ok (.ireturn, 1) := by decide +kernel
theorem dc_B_seal_0 : decode cd_B_seal 0 = .ok (.lload 5, 2) := by decide +kernel
theorem dc_B_seal_2 : decode cd_B_seal 2 = .ok (.lconst 0, 1) := by decide +kernel
theorem dc_B_seal_3 : decode cd_B_seal 3 = .ok (.lcmp, 1) := by decide +kernel
theorem dc_B_seal_4 : decode cd_B_seal 4 = .ok (.ifCond .lt 12, 3) := by decide +kernel
theorem dc_B_seal_7 : decode cd_B_seal 7 = .ok (.lload 5, 2) := by decide +kernel
theorem dc_B_seal_9 : decode cd_B_seal 9 = .ok (.ldc2_w 118, 3) := by decide +kernel
theorem dc_B_seal_12 : decode cd_B_seal 12 = .ok (.lcmp, 1) := by decide +kernel
theorem dc_B_seal_13 : decode cd_B_seal 13 = .ok (.ifCond .le 13, 3) := by decide +kernel
theorem dc_B_seal_16 : decode cd_B_seal 16 = .ok (.new 57, 3) := by decide +kernel
theorem dc_B_seal_19 : decode cd_B_seal 19 = .ok (.dup, 1) := by decide +kernel
theorem dc_B_seal_20 : decode cd_B_seal 20 = .ok (.ldc 120, 2) := by decide +kernel
theorem dc_B_seal_22 : decode cd_B_seal 22 = .ok (.invokespecial 61, 3) := by decide +kernel
theorem dc_B_seal_25 : decode cd_B_seal 25 = .ok (.athrow, 1) := by decide +kernel
theorem dc_B_seal_26 : decode cd_B_seal 26 = .ok (.bipush 61, 2) := by decide +kernel
theorem dc_B_seal_28 : decode cd_B_seal 28 = .ok (.aload_n 0, 1) := by decide +kernel
theorem dc_B_seal_29 : decode cd_B_seal 29 = .ok (.getfield 19, 3) := by decide +kernel
theorem dc_B_seal_32 : decode cd_B_seal 32 = .ok (.getfield 106, 3) := by decide +kernel
theorem dc_B_seal_35 : decode cd_B_seal 35 = .ok (.iadd, 1) := by decide +kernel
theorem dc_B_seal_36 : decode cd_B_seal 36 = .ok (.istore 7, 2) := by decide +kernel
theorem dc_B_seal_38 : decode cd_B_seal 38 = .ok (.aload_n 0, 1) := by decide +kernel
theorem dc_B_seal_39 : decode cd_B_seal 39 = .ok (.getfield 10, 3) := by decide +kernel
theorem dc_B_seal_42 : decode cd_B_seal 42 = .ok (.getfield 39, 3) := by decide +kernel
theorem dc_B_seal_45 : decode cd_B_seal 45 = .ok (.iload 7, 2) := by decide +kernel
theorem dc_B_seal_47 : decode cd_B_seal 47 = .ok (.iadd, 1) := by decide +kernel
theorem dc_B_seal_48 : decode cd_B_seal 48 = .ok (.sipush 16384, 3) := by decide +kernel
theorem dc_B_seal_51 : decode cd_B_seal 51 = .ok (.if_icmp .le 13, 3) := by decide +kernel
theorem dc_B_seal_54 : decode cd_B_seal 54 = .ok (.new 42, 3) := by decide +kernel
theorem dc_B_seal_57 : decode cd_B_seal 57 = .ok (.dup, 1) := by decide +kernel
theorem dc_B_seal_58 : decode cd_B_seal 58 = .ok (.ldc 44, 2) := by decide +kernel
theorem dc_B_seal_60 : decode cd_B_seal 60 = .ok (.invokespecial 46, 3) := by decide +kernel
theorem dc_B_seal_63 : decode cd_B_seal 63 = .ok (.athrow, 1) := by decide +kernel
theorem dc_B_seal_64 : decode cd_B_seal 64 = .ok (.aload_n 0, 1) := by decide +kernel
theorem dc_B_seal_65 : decode cd_B_seal 65 = .ok (.getfield 10, 3) := by decide +kernel
theorem dc_B_seal_68 : decode cd_B_seal 68 = .ok (.getfield 39, 3) := by decide +kernel
theorem dc_B_seal_71 : decode cd_B_seal 71 = .ok (.istore 8, 2) := by decide +kernel
theorem dc_B_seal_73 : decode cd_B_seal 73 = .ok (.aload_n 0, 1) := by decide +kernel
theorem dc_B_seal_74 : decode cd_B_seal 74 = .ok (.getfield 10, 3) := by decide +kernel
theorem dc_B_seal_77 : decode cd_B_seal 77 = .ok (.iload 7, 2) := by decide +kernel
theorem dc_B_seal_79 : decode cd_B_seal 79 = .ok (.invokevirtual 49, 3) := by decide +kernel
theorem dc_B_seal_82 : decode cd_B_seal 82 = .ok (.aload_n 0, 1) := by decide +kernel
theorem dc_B_seal_83 : decode cd_B_seal 83 = .ok (.lload_n 1, 1) := by decide +kernel
theorem dc_B_seal_84 : decode cd_B_seal 84 = .ok (.iload_n 3, 1) := by decide +kernel
theorem dc_B_seal_85 : decode cd_B_seal 85 = .ok (.iload 4, 2) := by decide +kernel
theorem dc_B_seal_87 : decode cd_B_seal 87 = .ok (.lload 5, 2) := by decide +kernel
theorem dc_B_seal_89 : decode cd_B_seal 89 = .ok (.invokevirtual 122, 3) := by decide +kernel
theorem dc_B_seal_92 : decode cd_B_seal 92 = .ok (.aload_n 0, 1) := by decide +kernel
theorem dc_B_seal_93 : decode cd_B_seal 93 = .ok (.getfield 19, 3) := by decide +kernel
theorem dc_B_seal_96 : decode cd_B_seal 96 = .ok (.aload_n 0, 1) := by decide +kernel
theorem dc_B_seal_97 : decode cd_B_seal 97 = .ok (.getfield 10, 3) := by decide +kernel
theorem dc_B_seal_100 : decode cd_B_seal 100 = .ok (.invokevirtual 126, 3) := by decide +kernel
theorem dc_B_seal_103 : decode cd_B_seal 103 = .ok (.aload_n 0, 1) := by decide +kernel
theorem dc_B_seal_104 : decode cd_B_seal 104 = .ok (.getfield 10, 3) := by decide +kernel
theorem dc_B_seal_107 : decode cd_B_seal 107 = .ok (.iload 8, 2) := by decide +kernel
theorem dc_B_seal_109 : decode cd_B_seal 109 = .ok (.invokevirtual 81, 3) := by decide +kernel
theorem dc_B_seal_112 : decode cd_B_seal 112 = .ok (.pop, 1) := by decide +kernel
theorem dc_B_seal_113 : decode cd_B_seal 113 = .ok (.aload_n 0, 1) := by decide +kernel
theorem dc_B_seal_114 : decode cd_B_seal 114 = .ok (.getfield 19, 3) := by decide +kernel
theorem dc_B_seal_117 : decode cd_B_seal 117 = .ok (.invokevirtual 115, 3) := by decide +kernel
theorem dc_B_seal_120 : decode cd_B_seal 120 = .ok (.aload_n 0, 1) := by decide +kernel
theorem dc_B_seal_121 : decode cd_B_seal 121 = .ok (.getfield 10, 3) := by decide +kernel
theorem dc_B_seal_124 : decode cd_B_seal 124 = .ok (.getfield 39, 3) := by decide +kernel
theorem dc_B_seal_127 : decode cd_B_seal 127 = .ok (.ireturn, 1) := by decide +kernel
theorem dc_B_writeHead_0 : decode cd_B_writeHead 0 = .ok (.aload_n 0, 1) := by decide +kernel
theorem dc_B_writeHead_1 : decode cd_B_writeHead 1 = .ok (.getfield 10, 3) := by decide +kernel
theorem dc_B_writeHead_4 : decode cd_B_writeHead 4 = .ok (.lconst 0, 1) := by decide +kernel
theorem dc_B_writeHead_5 : decode cd_B_writeHead 5 = .ok (.bipush 8, 2) := by decide +kernel
theorem dc_B_writeHead_7 : decode cd_B_writeHead 7 = .ok (.invokevirtual 53, 3) := by decide +kernel
theorem dc_B_writeHead_10 : decode cd_B_writeHead 10 = .ok (.aload_n 0, 1) := by decide +kernel
theorem dc_B_writeHead_11 : decode cd_B_writeHead 11 = .ok (.getfield 10, 3) := by decide +kernel
theorem dc_B_writeHead_14 : decode cd_B_writeHead 14 = .ok (.bipush 49, 2) := by decide +kernel
theorem dc_B_writeHead_16 : decode cd_B_writeHead 16 = .ok (.aload_n 0, 1) := by decide +kernel
theorem dc_B_writeHead_17 : decode cd_B_writeHead 17 = .ok (.getfield 19, 3) := by decide +kernel
theorem dc_B_writeHead_20 : decode cd_B_writeHead 20 = .ok (.getfield 106, 3) := by decide +kernel
theorem dc_B_writeHead_23 : decode cd_B_writeHead 23 = .ok (.iadd, 1) := by decide +kernel
theorem dc_B_writeHead_24 : decode cd_B_writeHead 24 = .ok (.i2l, 1) := by decide +kernel
theorem dc_B_writeHead_25 : decode cd_B_writeHead 25 = .ok (.iconst 4, 1) := by decide +kernel
theorem dc_B_writeHead_26 : decode cd_B_writeHead 26 = .ok (.invokevirtual 53, 3) := by decide +kernel
theorem dc_B_writeHead_29 : decode cd_B_writeHead 29 = .ok (.aload_n 0, 1) := by decide +kernel
theorem dc_B_writeHead_30 : decode cd_B_writeHead 30 = .ok (.getfield 10, 3) := by decide +kernel
theorem dc_B_writeHead_33 : decode cd_B_writeHead 33 = .ok (.lconst 0, 1) := by decide +kernel
theorem dc_B_writeHead_34 : decode cd_B_writeHead 34 = .ok (.iconst 4, 1) := by decide +kernel
theorem dc_B_writeHead_35 : decode cd_B_writeHead 35 = .ok (.invokevirtual 53, 3) := by decide +kernel
theorem dc_B_writeHead_38 : decode cd_B_writeHead 38 = .ok (.aload_n 0, 1) := by decide +kernel
theorem dc_B_writeHead_39 : decode cd_B_writeHead 39 = .ok (.getfield 10, 3) := by decide +kernel
theorem dc_B_writeHead_42 : decode cd_B_writeHead 42 = .ok (.ldc2_w 170, 3) := by decide +kernel
theorem dc_B_writeHead_45 : decode cd_B_writeHead 45 = .ok (.iconst 1, 1) := by decide +kernel
theorem dc_B_writeHead_46 : decode cd_B_writeHead 46 = .ok (.invokevirtual 53, 3) := by decide +kernel
theorem dc_B_writeHead_49 : decode cd_B_writeHead 49 = .ok (.aload_n 0, 1) := by decide +kernel
theorem dc_B_writeHead_50 : decode cd_B_writeHead 50 = .ok (.getfield 10, 3) := by decide +kernel
theorem dc_B_writeHead_53 : decode cd_B_writeHead 53 = .ok (.lconst 0, 1) := by decide +kernel
theorem dc_B_writeHead_54 : decode cd_B_writeHead 54 = .ok (.iconst 4, 1) := by decide +kernel
theorem dc_B_writeHead_55 : decode cd_B_writeHead 55 = .ok (.invokevirtual 53, 3) := by decide +kernel
theorem dc_B_writeHead_58 : decode cd_B_writeHead 58 = .ok (.aload_n 0, 1) := by decide +kernel
theorem dc_B_writeHead_59 : decode cd_B_writeHead 59 = .ok (.getfield 10, 3) := by decide +kernel
theorem dc_B_writeHead_62 : decode cd_B_writeHead 62 = .ok (.lconst 0, 1) := by decide +kernel
theorem dc_B_writeHead_63 : decode cd_B_writeHead 63 = .ok (.iconst 2, 1) := by decide +kernel
theorem dc_B_writeHead_64 : decode cd_B_writeHead 64 = .ok (.invokevirtual 53, 3) := by decide +kernel
theorem dc_B_writeHead_67 : decode cd_B_writeHead 67 = .ok (.aload_n 0, 1) := by decide +kernel
theorem dc_B_writeHead_68 : decode cd_B_writeHead 68 = .ok (.getfield 10, 3) := by decide +kernel
theorem dc_B_writeHead_71 : decode cd_B_writeHead 71 = .ok (.aload_n 0, 1) := by decide +kernel
theorem dc_B_writeHead_72 : decode cd_B_writeHead 72 = .ok (.getfield 19, 3) := by decide +kernel
theorem dc_B_writeHead_75 : decode cd_B_writeHead 75 = .ok (.getfield 98, 3) := by decide +kernel
theorem dc_B_writeHead_78 : decode cd_B_writeHead 78 = .ok (.iconst 1, 1) := by decide +kernel
theorem dc_B_writeHead_79 : decode cd_B_writeHead 79 = .ok (.isub, 1) := by decide +kernel
theorem dc_B_writeHead_80 : decode cd_B_writeHead 80 = .ok (.i2l, 1) := by decide +kernel
theorem dc_B_writeHead_81 : decode cd_B_writeHead 81 = .ok (.iconst 4, 1) := by decide +kernel
theorem dc_B_writeHead_82 : decode cd_B_writeHead 82 = .ok (.invokevirtual 53, 3) := by decide +kernel
theorem dc_B_writeHead_85 : decode cd_B_writeHead 85 = .ok (.aload_n 0, 1) := by decide +kernel
theorem dc_B_writeHead_86 : decode cd_B_writeHead 86 = .ok (.getfield 10, 3) := by decide +kernel
theorem dc_B_writeHead_89 : decode cd_B_writeHead 89 = .ok (.lload 5, 2) := by decide +kernel
theorem dc_B_writeHead_91 : decode cd_B_writeHead 91 = .ok (.bipush 8, 2) := by decide +kernel
theorem dc_B_writeHead_93 : decode cd_B_writeHead 93 = .ok (.invokevirtual 53, 3) := by decide +kernel
theorem dc_B_writeHead_96 : decode cd_B_writeHead 96 = .ok (.aload_n 0, 1) := by decide +kernel
theorem dc_B_writeHead_97 : decode cd_B_writeHead 97 = .ok (.getfield 10, 3) := by decide +kernel
theorem dc_B_writeHead_100 : decode cd_B_writeHead 100 = .ok (.aload_n 0, 1) := by decide +kernel
theorem dc_B_writeHead_101 : decode cd_B_writeHead 101 = .ok (.getfield 19, 3) := by decide +kernel
theorem dc_B_writeHead_104 : decode cd_B_writeHead 104 = .ok (.getfield 98, 3) := by decide +kernel
theorem dc_B_writeHead_107 : decode cd_B_writeHead 107 = .ok (.ifCond .ne 7, 3) := by decide +kernel
theorem dc_B_writeHead_110 : decode cd_B_writeHead 110 = .ok (.lconst 0, 1) := by decide +kernel
theorem dc_B_writeHead_111 : decode cd_B_writeHead 111 = .ok (.goto 14, 3) := by decide +kernel
theorem dc_B_writeHead_114 : decode cd_B_writeHead 114 = .ok (.lload 5, 2) := by decide +kernel
theorem dc_B_writeHead_116 : decode cd_B_writeHead 116 = .ok (.aload_n 0, 1) := by decide +kernel
theorem dc_B_writeHead_117 : decode cd_B_writeHead 117 = .ok (.getfield 19, 3) := by decide +kernel
theorem dc_B_writeHead_120 : decode cd_B_writeHead 120 = .ok (.getfield 172, 3) := by decide +kernel
theorem dc_B_writeHead_123 : decode cd_B_writeHead 123 = .ok (.i2l, 1) := by decide +kernel
theorem dc_B_writeHead_124 : decode cd_B_writeHead 124 = .ok (.ladd, 1) := by decide +kernel
theorem dc_B_writeHead_125 : decode cd_B_writeHead 125 = .ok (.bipush 8, 2) := by decide +kernel
theorem dc_B_writeHead_127 : decode cd_B_writeHead 127 = .ok (.invokevirtual 53, 3) := by decide +kernel
theorem dc_B_writeHead_130 : decode cd_B_writeHead 130 = .ok (.aload_n 0, 1) := by decide +kernel
theorem dc_B_writeHead_131 : decode cd_B_writeHead 131 = .ok (.getfield 10, 3) := by decide +kernel
theorem dc_B_writeHead_134 : decode cd_B_writeHead 134 = .ok (.lload_n 1, 1) := by decide +kernel
theorem dc_B_writeHead_135 : decode cd_B_writeHead 135 = .ok (.bipush 8, 2) := by decide +kernel
theorem dc_B_writeHead_137 : decode cd_B_writeHead 137 = .ok (.invokevirtual 53, 3) := by decide +kernel
theorem dc_B_writeHead_140 : decode cd_B_writeHead 140 = .ok (.aload_n 0, 1) := by decide +kernel
theorem dc_B_writeHead_141 : decode cd_B_writeHead 141 = .ok (.getfield 10, 3) := by decide +kernel
theorem dc_B_writeHead_144 : decode cd_B_writeHead 144 = .ok (.iload_n 3, 1) := by decide +kernel
theorem dc_B_writeHead_145 : decode cd_B_writeHead 145 = .ok (.i2l, 1) := by decide +kernel
theorem dc_B_writeHead_146 : decode cd_B_writeHead 146 = .ok (.iconst 2, 1) := by decide +kernel
theorem dc_B_writeHead_147 : decode cd_B_writeHead 147 = .ok (.invokevirtual 53, 3) := by decide +kernel
theorem dc_B_writeHead_150 : decode cd_B_writeHead 150 = .ok (.aload_n 0, 1) := by decide +kernel
theorem dc_B_writeHead_151 : decode cd_B_writeHead 151 = .ok (.getfield 10, 3) := by decide +kernel
theorem dc_B_writeHead_154 : decode cd_B_writeHead 154 = .ok (.iload 4, 2) := by decide +kernel
theorem dc_B_writeHead_156 : decode cd_B_writeHead 156 = .ok (.i2l, 1) := by decide +kernel
theorem dc_B_writeHead_157 : decode cd_B_writeHead 157 = .ok (.iconst 4, 1) := by decide +kernel
theorem dc_B_writeHead_158 : decode cd_B_writeHead 158 = .ok (.invokevirtual 53, 3) := by decide +kernel
theorem dc_B_writeHead_161 : decode cd_B_writeHead 161 = .ok (.aload_n 0, 1) := by decide +kernel
theorem dc_B_writeHead_162 : decode cd_B_writeHead 162 = .ok (.getfield 10, 3) := by decide +kernel
theorem dc_B_writeHead_165 : decode cd_B_writeHead 165 = .ok (.aload_n 0, 1) := by decide +kernel
theorem dc_B_writeHead_166 : decode cd_B_writeHead 166 = .ok (.getfield 19, 3) := by decide +kernel
theorem dc_B_writeHead_169 : decode cd_B_writeHead 169 = .ok (.getfield 98, 3) := by decide +kernel
theorem dc_B_writeHead_172 : decode cd_B_writeHead 172 = .ok (.i2l, 1) := by decide +kernel
theorem dc_B_writeHead_173 : decode cd_B_writeHead 173 = .ok (.iconst 4, 1) := by decide +kernel
theorem dc_B_writeHead_174 : decode cd_B_writeHead 174 = .ok (.invokevirtual 53, 3) := by decide +kernel
theorem dc_B_writeHead_177 : decode cd_B_writeHead 177 = .ok (.return_, 1) := by decide +kernel
theorem dc_D_writeTo_0 : decode cd_D_writeTo 0 = .ok (.iconst 0, 1) := by decide +kernel
theorem dc_D_writeTo_1 : decode cd_D_writeTo 1 = .ok (.istore_n 2, 1) := by decide +kernel
theorem dc_D_writeTo_2 : decode cd_D_writeTo 2 = .ok (.iconst 0, 1) := by decide +kernel
theorem dc_D_writeTo_3 : decode cd_D_writeTo 3 = .ok (.istore_n 3, 1) := by decide +kernel
theorem dc_D_writeTo_4 : decode cd_D_writeTo 4 = .ok (.iload_n 3, 1) := by decide +kernel
theorem dc_D_writeTo_5 : decode cd_D_writeTo 5 = .ok (.aload_n 0, 1) := by decide +kernel
theorem dc_D_writeTo_6 : decode cd_D_writeTo 6 = .ok (.getfield 10, 3) := by decide +kernel
theorem dc_D_writeTo_9 : decode cd_D_writeTo 9 = .ok (.invokevirtual 47, 3) := by decide +kernel
theorem dc_D_writeTo_12 : decode cd_D_writeTo 12 = .ok (.if_icmp .ge 53, 3) := by decide +kernel
theorem dc_D_writeTo_15 : decode cd_D_writeTo 15 = .ok (.aload_n 0, 1) := by decide +kernel
theorem dc_D_writeTo_16 : decode cd_D_writeTo 16 = .ok (.getfield 10, 3) := by decide +kernel
theorem dc_D_writeTo_19 : decode cd_D_writeTo 19 = .ok (.iload_n 3, 1) := by decide +kernel
theorem dc_D_writeTo_20 : decode cd_D_writeTo 20 = .ok (.invokevirtual 51, 3) := by decide +kernel
theorem dc_D_writeTo_23 : decode cd_D_writeTo 23 = .ok (.checkcast 31, 3) := by decide +kernel
theorem dc_D_writeTo_26 : decode cd_D_writeTo 26 = .ok (.astore 4, 2) := by decide +kernel
theorem dc_D_writeTo_28 : decode cd_D_writeTo 28 = .ok (.iconst 0, 1) := by decide +kernel
theorem dc_D_writeTo_29 : decode cd_D_writeTo 29 = .ok (.istore 5, 2) := by decide +kernel
theorem dc_D_writeTo_31 : decode cd_D_writeTo 31 = .ok (.iload 5, 2) := by decide +kernel
theorem dc_D_writeTo_33 : decode cd_D_writeTo 33 = .ok (.aload 4, 2) := by decide +kernel
theorem dc_D_writeTo_35 : decode cd_D_writeTo 35 = .ok (.getfield 30, 3) := by decide +kernel
theorem dc_D_writeTo_38 : decode cd_D_writeTo 38 = .ok (.if_icmp .ge 21, 3) := by decide +kernel
theorem dc_D_writeTo_41 : decode cd_D_writeTo 41 = .ok (.aload 4, 2) := by decide +kernel
theorem dc_D_writeTo_43 : decode cd_D_writeTo 43 = .ok (.aload_n 1, 1) := by decide +kernel
theorem dc_D_writeTo_44 : decode cd_D_writeTo 44 = .ok (.iload 5, 2) := by decide +kernel
theorem dc_D_writeTo_46 : decode cd_D_writeTo 46 = .ok (.iload_n 2, 1) := by decide +kernel
theorem dc_D_writeTo_47 : decode cd_D_writeTo 47 = .ok (.invokevirtual 55, 3) := by decide +kernel
theorem dc_D_writeTo_50 : decode cd_D_writeTo 50 = .ok (.iinc 2 1, 3) := by decide +kernel
theorem dc_D_writeTo_53 : decode cd_D_writeTo 53 = .ok (.iinc 5 1, 3) := by decide +kernel
theorem dc_D_writeTo_56 : decode cd_D_writeTo 56 = .ok (.goto (-25), 3) := by decide +kernel
theorem dc_D_writeTo_59 : decode cd_D_writeTo 59 = .ok (.iinc 3 1, 3) := by decide +kernel
theorem dc_D_writeTo_62 : decode cd_D_writeTo 62 = .ok (.goto (-58), 3) := by decide +kernel
theorem dc_D_writeTo_65 : decode cd_D_writeTo 65 = .ok (.return_, 1) := by decide +kernel
theorem dc_A_size_0 : decode cd_A_size 0 = .ok (.aload_n 0, 1) := by decide +kernel
theorem dc_A_size_1 : decode cd_A_size 1 = .ok (.getfield 48, 3) := by decide +kernel
theorem dc_A_size_4 : decode cd_A_size 4 = .ok (.ireturn, 1) := by decide +kernel
theorem dc_A_get_0 : decode cd_A_get 0 = .ok (.iload_n 1, 1) := by decide +kernel
theorem dc_A_get_1 : decode cd_A_get 1 = .ok (.aload_n 0, 1) := by decide +kernel
theorem dc_A_get_2 : decode cd_A_get 2 = .ok (.getfield 48, 3) := by decide +kernel
theorem dc_A_get_5 : decode cd_A_get 5 = .ok (.invokestatic 118, 3) := by decide +kernel
theorem dc_A_get_8 : decode cd_A_get 8 = .ok (.pop, 1) := by decide +kernel
theorem dc_A_get_9 : decode cd_A_get 9 = .ok (.aload_n 0, 1) := by decide +kernel
theorem dc_A_get_10 : decode cd_A_get 10 = .ok (.iload_n 1, 1) := by decide +kernel
theorem dc_A_get_11 : decode cd_A_get 11 = .ok (.invokevirtual 123, 3) := by decide +kernel
theorem dc_A_get_14 : decode cd_A_get 14 = .ok (.areturn, 1) := by decide +kernel
theorem dc_OB_checkIndex_0 : decode cd_OB_checkIndex 0 = .ok (.iload_n 0, 1) := by decide +kernel
theorem dc_OB_checkIndex_1 : decode cd_OB_checkIndex 1 = .ok (.iload_n 1, 1) := by decide +kernel
theorem dc_OB_checkIndex_2 : decode cd_OB_checkIndex 2 = .ok (.aconst_null, 1) := by decide +kernel
theorem dc_OB_checkIndex_3 : decode cd_OB_checkIndex 3 = .ok (.invokestatic 105, 3) := by decide +kernel
theorem dc_OB_checkIndex_6 : decode cd_OB_checkIndex 6 = .ok (.ireturn, 1) := by decide +kernel
theorem dc_PC_checkIndex_0 : decode cd_PC_checkIndex 0 = .ok (.iload_n 0, 1) := by decide +kernel
theorem dc_PC_checkIndex_1 : decode cd_PC_checkIndex 1 = .ok (.ifCond .lt 8, 3) := by decide +kernel
theorem dc_PC_checkIndex_4 : decode cd_PC_checkIndex 4 = .ok (.iload_n 0, 1) := by decide +kernel
theorem dc_PC_checkIndex_5 : decode cd_PC_checkIndex 5 = .ok (.iload_n 1, 1) := by decide +kernel
theorem dc_PC_checkIndex_6 : decode cd_PC_checkIndex 6 = .ok (.if_icmp .lt 10, 3) := by decide +kernel
theorem dc_PC_checkIndex_9 : decode cd_PC_checkIndex 9 = .ok (.aload_n 2, 1) := by decide +kernel
theorem dc_PC_checkIndex_10 : decode cd_PC_checkIndex 10 = .ok (.iload_n 0, 1) := by decide +kernel
theorem dc_PC_checkIndex_11 : decode cd_PC_checkIndex 11 = .ok (.iload_n 1, 1) := by decide +kernel
theorem dc_PC_checkIndex_12 : decode cd_PC_checkIndex 12 = .ok (.invokestatic 95, 3) := by decide +kernel
theorem dc_PC_checkIndex_15 : decode cd_PC_checkIndex 15 = .ok (.athrow, 1) := by decide +kernel
theorem dc_PC_checkIndex_16 : decode cd_PC_checkIndex 16 = .ok (.iload_n 0, 1) := by decide +kernel
theorem dc_PC_checkIndex_17 : decode cd_PC_checkIndex 17 = .ok (.ireturn, 1) := by decide +kernel
theorem dc_A_elementData_0 : decode cd_A_elementData 0 = .ok (.aload_n 0, 1) := by decide +kernel
theorem dc_A_elementData_1 : decode cd_A_elementData 1 = .ok (.getfield 9, 3) := by decide +kernel
theorem dc_A_elementData_4 : decode cd_A_elementData 4 = .ok (.iload_n 1, 1) := by decide +kernel
theorem dc_A_elementData_5 : decode cd_A_elementData 5 = .ok (.aaload, 1) := by decide +kernel
theorem dc_A_elementData_6 : decode cd_A_elementData 6 = .ok (.areturn, 1) := by decide +kernel
theorem dc_G_writeOne_0 : decode cd_G_writeOne 0 = .ok (.aload_n 1, 1) := by decide +kernel
theorem dc_G_writeOne_1 : decode cd_G_writeOne 1 = .ok (.aload_n 0, 1) := by decide +kernel
theorem dc_G_writeOne_2 : decode cd_G_writeOne 2 = .ok (.iload_n 2, 1) := by decide +kernel
theorem dc_G_writeOne_3 : decode cd_G_writeOne 3 = .ok (.iload_n 3, 1) := by decide +kernel
theorem dc_G_writeOne_4 : decode cd_G_writeOne 4 = .ok (.invokevirtual 29, 3) := by decide +kernel
theorem dc_G_writeOne_7 : decode cd_G_writeOne 7 = .ok (.i2l, 1) := by decide +kernel
theorem dc_G_writeOne_8 : decode cd_G_writeOne 8 = .ok (.invokevirtual 48, 3) := by decide +kernel
theorem dc_G_writeOne_11 : decode cd_G_writeOne 11 = .ok (.aload_n 1, 1) := by decide +kernel
theorem dc_G_writeOne_12 : decode cd_G_writeOne 12 = .ok (.iconst 0, 1) := by decide +kernel
theorem dc_G_writeOne_13 : decode cd_G_writeOne 13 = .ok (.invokevirtual 54, 3) := by decide +kernel
theorem dc_G_writeOne_16 : decode cd_G_writeOne 16 = .ok (.aload_n 1, 1) := by decide +kernel
theorem dc_G_writeOne_17 : decode cd_G_writeOne 17 = .ok (.aload_n 0, 1) := by decide +kernel
theorem dc_G_writeOne_18 : decode cd_G_writeOne 18 = .ok (.getfield 26, 3) := by decide +kernel
theorem dc_G_writeOne_21 : decode cd_G_writeOne 21 = .ok (.iload_n 2, 1) := by decide +kernel
theorem dc_G_writeOne_22 : decode cd_G_writeOne 22 = .ok (.iadd, 1) := by decide +kernel
theorem dc_G_writeOne_23 : decode cd_G_writeOne 23 = .ok (.i2l, 1) := by decide +kernel
theorem dc_G_writeOne_24 : decode cd_G_writeOne 24 = .ok (.invokevirtual 48, 3) := by decide +kernel
theorem dc_G_writeOne_27 : decode cd_G_writeOne 27 = .ok (.aload_n 1, 1) := by decide +kernel
theorem dc_G_writeOne_28 : decode cd_G_writeOne 28 = .ok (.iload_n 3, 1) := by decide +kernel
theorem dc_G_writeOne_29 : decode cd_G_writeOne 29 = .ok (.i2l, 1) := by decide +kernel
theorem dc_G_writeOne_30 : decode cd_G_writeOne 30 = .ok (.invokevirtual 48, 3) := by decide +kernel
theorem dc_G_writeOne_33 : decode cd_G_writeOne 33 = .ok (.aload_n 1, 1) := by decide +kernel
theorem dc_G_writeOne_34 : decode cd_G_writeOne 34 = .ok (.aload_n 0, 1) := by decide +kernel
theorem dc_G_writeOne_35 : decode cd_G_writeOne 35 = .ok (.getfield 17, 3) := by decide +kernel
theorem dc_G_writeOne_38 : decode cd_G_writeOne 38 = .ok (.i2l, 1) := by decide +kernel
theorem dc_G_writeOne_39 : decode cd_G_writeOne 39 = .ok (.invokevirtual 48, 3) := by decide +kernel
theorem dc_G_writeOne_42 : decode cd_G_writeOne 42 = .ok (.aload_n 1, 1) := by decide +kernel
theorem dc_G_writeOne_43 : decode cd_G_writeOne 43 = .ok (.aload_n 0, 1) := by decide +kernel
theorem dc_G_writeOne_44 : decode cd_G_writeOne 44 = .ok (.getfield 13, 3) := by decide +kernel
theorem dc_G_writeOne_47 : decode cd_G_writeOne 47 = .ok (.iload_n 2, 1) := by decide +kernel
theorem dc_G_writeOne_48 : decode cd_G_writeOne 48 = .ok (.i2l, 1) := by decide +kernel
theorem dc_G_writeOne_49 : decode cd_G_writeOne 49 = .ok (.ladd, 1) := by decide +kernel
theorem dc_G_writeOne_50 : decode cd_G_writeOne 50 = .ok (.aload_n 0, 1) := by decide +kernel
theorem dc_G_writeOne_51 : decode cd_G_writeOne 51 = .ok (.getfield 17, 3) := by decide +kernel
theorem dc_G_writeOne_54 : decode cd_G_writeOne 54 = .ok (.invokevirtual 58, 3) := by decide +kernel
theorem dc_G_writeOne_57 : decode cd_G_writeOne 57 = .ok (.aload_n 1, 1) := by decide +kernel
theorem dc_G_writeOne_58 : decode cd_G_writeOne 58 = .ok (.aload_n 0, 1) := by decide +kernel
theorem dc_G_writeOne_59 : decode cd_G_writeOne 59 = .ok (.getfield 23, 3) := by decide +kernel
theorem dc_G_writeOne_62 : decode cd_G_writeOne 62 = .ok (.i2l, 1) := by decide +kernel
theorem dc_G_writeOne_63 : decode cd_G_writeOne 63 = .ok (.invokevirtual 48, 3) := by decide +kernel
theorem dc_G_writeOne_66 : decode cd_G_writeOne 66 = .ok (.iconst 0, 1) := by decide +kernel
theorem dc_G_writeOne_67 : decode cd_G_writeOne 67 = .ok (.istore 4, 2) := by decide +kernel
theorem dc_G_writeOne_69 : decode cd_G_writeOne 69 = .ok (.iload 4, 2) := by decide +kernel
theorem dc_G_writeOne_71 : decode cd_G_writeOne 71 = .ok (.aload_n 0, 1) := by decide +kernel
theorem dc_G_writeOne_72 : decode cd_G_writeOne 72 = .ok (.getfield 23, 3) := by decide +kernel
theorem dc_G_writeOne_75 : decode cd_G_writeOne 75 = .ok (.if_icmp .ge 30, 3) := by decide +kernel
theorem dc_G_writeOne_78 : decode cd_G_writeOne 78 = .ok (.aload_n 1, 1) := by decide +kernel
theorem dc_G_writeOne_79 : decode cd_G_writeOne 79 = .ok (.aload_n 0, 1) := by decide +kernel
theorem dc_G_writeOne_80 : decode cd_G_writeOne 80 = .ok (.getfield 20, 3) := by decide +kernel
theorem dc_G_writeOne_83 : decode cd_G_writeOne 83 = .ok (.iload_n 2, 1) := by decide +kernel
theorem dc_G_writeOne_84 : decode cd_G_writeOne 84 = .ok (.i2l, 1) := by decide +kernel
theorem dc_G_writeOne_85 : decode cd_G_writeOne 85 = .ok (.ladd, 1) := by decide +kernel
theorem dc_G_writeOne_86 : decode cd_G_writeOne 86 = .ok (.bipush 8, 2) := by decide +kernel
theorem dc_G_writeOne_88 : decode cd_G_writeOne 88 = .ok (.iload 4, 2) := by decide +kernel
theorem dc_G_writeOne_90 : decode cd_G_writeOne 90 = .ok (.bipush 7, 2) := by decide +kernel
theorem dc_G_writeOne_92 : decode cd_G_writeOne 92 = .ok (.iand, 1) := by decide +kernel
theorem dc_G_writeOne_93 : decode cd_G_writeOne 93 = .ok (.imul, 1) := by decide +kernel
theorem dc_G_writeOne_94 : decode cd_G_writeOne 94 = .ok (.lshr, 1) := by decide +kernel
theorem dc_G_writeOne_95 : decode cd_G_writeOne 95 = .ok (.l2i, 1) := by decide +kernel
theorem dc_G_writeOne_96 : decode cd_G_writeOne 96 = .ok (.invokevirtual 54, 3) := by decide +kernel
theorem dc_G_writeOne_99 : decode cd_G_writeOne 99 = .ok (.iinc 4 1, 3) := by decide +kernel
theorem dc_G_writeOne_102 : decode cd_G_writeOne 102 = .ok (.goto (-33), 3) := by decide +kernel
theorem dc_G_writeOne_105 : decode cd_G_writeOne 105 = .ok (.aload_n 1, 1) := by decide +kernel
theorem dc_G_writeOne_106 : decode cd_G_writeOne 106 = .ok (.iconst 0, 1) := by decide +kernel
theorem dc_G_writeOne_107 : decode cd_G_writeOne 107 = .ok (.invokevirtual 54, 3) := by decide +kernel
theorem dc_G_writeOne_110 : decode cd_G_writeOne 110 = .ok (.return_, 1) := by decide +kernel
theorem dc_T_putVarint_0 : decode cd_T_putVarint 0 = .ok (.lload_n 1, 1) := by decide +kernel
theorem dc_T_putVarint_1 : decode cd_T_putVarint 1 = .ok (.invokestatic 49, 3) := by decide +kernel
theorem dc_T_putVarint_4 : decode cd_T_putVarint 4 = .ok (.lstore_n 3, 1) := by decide +kernel
theorem dc_T_putVarint_5 : decode cd_T_putVarint 5 = .ok (.iconst 1, 1) := by decide +kernel
theorem dc_T_putVarint_6 : decode cd_T_putVarint 6 = .ok (.istore 5, 2) := by decide +kernel
theorem dc_T_putVarint_8 : decode cd_T_putVarint 8 = .ok (.iload 5, 2) := by decide +kernel
theorem dc_T_putVarint_10 : decode cd_T_putVarint 10 = .ok (.bipush 10, 2) := by decide +kernel
theorem dc_T_putVarint_12 : decode cd_T_putVarint 12 = .ok (.if_icmp .ge 37, 3) := by decide +kernel
theorem dc_T_putVarint_15 : decode cd_T_putVarint 15 = .ok (.lload_n 3, 1) := by decide +kernel
theorem dc_T_putVarint_16 : decode cd_T_putVarint 16 = .ok (.bipush 7, 2) := by decide +kernel
theorem dc_T_putVarint_18 : decode cd_T_putVarint 18 = .ok (.lushr, 1) := by decide +kernel
theorem dc_T_putVarint_19 : decode cd_T_putVarint 19 = .ok (.lconst 0, 1) := by decide +kernel
theorem dc_T_putVarint_20 : decode cd_T_putVarint 20 = .ok (.lcmp, 1) := by decide +kernel
theorem dc_T_putVarint_21 : decode cd_T_putVarint 21 = .ok (.ifCond .eq 28, 3) := by decide +kernel
theorem dc_T_putVarint_24 : decode cd_T_putVarint 24 = .ok (.aload_n 0, 1) := by decide +kernel
theorem dc_T_putVarint_25 : decode cd_T_putVarint 25 = .ok (.lload_n 3, 1) := by decide +kernel
theorem dc_T_putVarint_26 : decode cd_T_putVarint 26 = .ok (.ldc2_w 53, 3) := by decide +kernel
theorem dc_T_putVarint_29 : decode cd_T_putVarint 29 = .ok (.land, 1) := by decide +kernel
theorem dc_T_putVarint_30 : decode cd_T_putVarint 30 = .ok (.l2i, 1) := by decide +kernel
theorem dc_T_putVarint_31 : decode cd_T_putVarint 31 = .ok (.sipush 128, 3) := by decide +kernel
theorem dc_T_putVarint_34 : decode cd_T_putVarint 34 = .ok (.ior, 1) := by decide +kernel
theorem dc_T_putVarint_35 : decode cd_T_putVarint 35 = .ok (.invokevirtual 46, 3) := by decide +kernel
theorem dc_T_putVarint_38 : decode cd_T_putVarint 38 = .ok (.lload_n 3, 1) := by decide +kernel
theorem dc_T_putVarint_39 : decode cd_T_putVarint 39 = .ok (.bipush 7, 2) := by decide +kernel
theorem dc_T_putVarint_41 : decode cd_T_putVarint 41 = .ok (.lushr, 1) := by decide +kernel
theorem dc_T_putVarint_42 : decode cd_T_putVarint 42 = .ok (.lstore_n 3, 1) := by decide +kernel
theorem dc_T_putVarint_43 : decode cd_T_putVarint 43 = .ok (.iinc 5 1, 3) := by decide +kernel
theorem dc_T_putVarint_46 : decode cd_T_putVarint 46 = .ok (.goto (-38), 3) := by decide +kernel
theorem dc_T_putVarint_49 : decode cd_T_putVarint 49 = .ok (.aload_n 0, 1) := by decide +kernel
theorem dc_T_putVarint_50 : decode cd_T_putVarint 50 = .ok (.lload_n 3, 1) := by decide +kernel
theorem dc_T_putVarint_51 : decode cd_T_putVarint 51 = .ok (.l2i, 1) := by decide +kernel
theorem dc_T_putVarint_52 : decode cd_T_putVarint 52 = .ok (.invokevirtual 46, 3) := by decide +kernel
theorem dc_T_putVarint_55 : decode cd_T_putVarint 55 = .ok (.return_, 1) := by decide +kernel
theorem dc_L_byteAt_0 : decode cd_L_byteAt 0 = .ok (.aload_n 2, 1) := by decide +kernel
theorem dc_L_byteAt_1 : decode cd_L_byteAt 1 = .ok (.iconst 0, 1) := by decide +kernel
theorem dc_L_byteAt_2 : decode cd_L_byteAt 2 = .ok (.aload_n 0, 1) := by decide +kernel
theorem dc_L_byteAt_3 : decode cd_L_byteAt 3 = .ok (.iload_n 1, 1) := by decide +kernel
theorem dc_L_byteAt_4 : decode cd_L_byteAt 4 = .ok (.invokevirtual 33, 3) := by decide +kernel
theorem dc_L_byteAt_7 : decode cd_L_byteAt 7 = .ok (.i2l, 1) := by decide +kernel
theorem dc_L_byteAt_8 : decode cd_L_byteAt 8 = .ok (.lastore, 1) := by decide +kernel
theorem dc_L_byteAt_9 : decode cd_L_byteAt 9 = .ok (.goto 6, 3) := by decide +kernel
theorem dc_L_byteAt_12 : decode cd_L_byteAt 12 = .ok (.astore_n 3, 1) := by decide +kernel
theorem dc_L_byteAt_13 : decode cd_L_byteAt 13 = .ok (.iconst 1, 1) := by decide +kernel
theorem dc_L_byteAt_14 : decode cd_L_byteAt 14 = .ok (.ireturn, 1) := by decide +kernel
theorem dc_L_byteAt_15 : decode cd_L_byteAt 15 = .ok (.iconst 0, 1) := by decide +kernel
theorem dc_L_byteAt_16 : decode cd_L_byteAt 16 = .ok (.ireturn, 1) := by decide +kernel
theorem dc_B_byteAt_0 : decode cd_B_byteAt 0 = .ok (.aload_n 0, 1) := by decide +kernel
theorem dc_B_byteAt_1 : decode cd_B_byteAt 1 = .ok (.getfield 10, 3) := by decide +kernel
theorem dc_B_byteAt_4 : decode cd_B_byteAt 4 = .ok (.iload_n 1, 1) := by decide +kernel
theorem dc_B_byteAt_5 : decode cd_B_byteAt 5 = .ok (.invokevirtual 65, 3) := by decide +kernel
theorem dc_B_byteAt_8 : decode cd_B_byteAt 8 = .ok (.ifCond .ne 13, 3) := by decide +kernel
theorem dc_B_byteAt_11 : decode cd_B_byteAt 11 = .ok (.new 57, 3) := by decide +kernel
theorem dc_B_byteAt_14 : decode cd_B_byteAt 14 = .ok (.dup, 1) := by decide +kernel
theorem dc_B_byteAt_15 : decode cd_B_byteAt 15 = .ok (.ldc 69, 2) := by decide +kernel
theorem dc_B_byteAt_17 : decode cd_B_byteAt 17 = .ok (.invokespecial 61, 3) := by decide +kernel
theorem dc_B_byteAt_20 : decode cd_B_byteAt 20 = .ok (.athrow, 1) := by decide +kernel
theorem dc_B_byteAt_21 : decode cd_B_byteAt 21 = .ok (.aload_n 0, 1) := by decide +kernel
theorem dc_B_byteAt_22 : decode cd_B_byteAt 22 = .ok (.getfield 10, 3) := by decide +kernel
theorem dc_B_byteAt_25 : decode cd_B_byteAt 25 = .ok (.iload_n 1, 1) := by decide +kernel
theorem dc_B_byteAt_26 : decode cd_B_byteAt 26 = .ok (.invokevirtual 73, 3) := by decide +kernel
theorem dc_B_byteAt_29 : decode cd_B_byteAt 29 = .ok (.ireturn, 1) := by decide +kernel
theorem dc_L_fault_0 : decode cd_L_fault 0 = .ok (.aload_n 2, 1) := by decide +kernel
theorem dc_L_fault_1 : decode cd_L_fault 1 = .ok (.iconst 0, 1) := by decide +kernel
theorem dc_L_fault_2 : decode cd_L_fault 2 = .ok (.aload_n 0, 1) := by decide +kernel
theorem dc_L_fault_3 : decode cd_L_fault 3 = .ok (.iload_n 1, 1) := by decide +kernel
theorem dc_L_fault_4 : decode cd_L_fault 4 = .ok (.invokevirtual 36, 3) := by decide +kernel
theorem dc_L_fault_7 : decode cd_L_fault 7 = .ok (.i2l, 1) := by decide +kernel
theorem dc_L_fault_8 : decode cd_L_fault 8 = .ok (.lastore, 1) := by decide +kernel
theorem dc_L_fault_9 : decode cd_L_fault 9 = .ok (.goto 6, 3) := by decide +kernel
theorem dc_L_fault_12 : decode cd_L_fault 12 = .ok (.astore_n 3, 1) := by decide +kernel
theorem dc_L_fault_13 : decode cd_L_fault 13 = .ok (.iconst 1, 1) := by decide +kernel
theorem dc_L_fault_14 : decode cd_L_fault 14 = .ok (.ireturn, 1) := by decide +kernel
theorem dc_L_fault_15 : decode cd_L_fault 15 = .ok (.iconst 0, 1) := by decide +kernel
theorem dc_L_fault_16 : decode cd_L_fault 16 = .ok (.ireturn, 1) := by decide +kernel
theorem dc_B_fault_0 : decode cd_B_fault 0 = .ok (.iload_n 1, 1) := by decide +kernel
theorem dc_B_fault_1 : decode cd_B_fault 1 = .ok (.ifCond .lt 8, 3) := by decide +kernel
theorem dc_B_fault_4 : decode cd_B_fault 4 = .ok (.iload_n 1, 1) := by decide +kernel
theorem dc_B_fault_5 : decode cd_B_fault 5 = .ok (.iconst 1, 1) := by decide +kernel
theorem dc_B_fault_6 : decode cd_B_fault 6 = .ok (.if_icmp .le 13, 3) := by decide +kernel
theorem dc_B_fault_9 : decode cd_B_fault 9 = .ok (.new 57, 3) := by decide +kernel
theorem dc_B_fault_12 : decode cd_B_fault 12 = .ok (.dup, 1) := by decide +kernel
theorem dc_B_fault_13 : decode cd_B_fault 13 = .ok (.ldc 129, 2) := by decide +kernel
theorem dc_B_fault_15 : decode cd_B_fault 15 = .ok (.invokespecial 61, 3) := by decide +kernel
theorem dc_B_fault_18 : decode cd_B_fault 18 = .ok (.athrow, 1) := by decide +kernel
theorem dc_B_fault_19 : decode cd_B_fault 19 = .ok (.aload_n 0, 1) := by decide +kernel
theorem dc_B_fault_20 : decode cd_B_fault 20 = .ok (.invokevirtual 131, 3) := by decide +kernel
theorem dc_B_fault_23 : decode cd_B_fault 23 = .ok (.iload_n 1, 1) := by decide +kernel
theorem dc_B_fault_24 : decode cd_B_fault 24 = .ok (.ifCond .ne 10, 3) := by decide +kernel
theorem dc_B_fault_27 : decode cd_B_fault 27 = .ok (.aload_n 0, 1) := by decide +kernel
theorem dc_B_fault_28 : decode cd_B_fault 28 = .ok (.getfield 32, 3) := by decide +kernel
theorem dc_B_fault_31 : decode cd_B_fault 31 = .ok (.goto 7, 3) := by decide +kernel
theorem dc_B_fault_34 : decode cd_B_fault 34 = .ok (.aload_n 0, 1) := by decide +kernel
theorem dc_B_fault_35 : decode cd_B_fault 35 = .ok (.getfield 36, 3) := by decide +kernel
theorem dc_B_fault_38 : decode cd_B_fault 38 = .ok (.ireturn, 1) := by decide +kernel
theorem dc_B_judge_0 : decode cd_B_judge 0 = .ok (.aload_n 0, 1) := by decide +kernel
theorem dc_B_judge_1 : decode cd_B_judge 1 = .ok (.getfield 10, 3) := by decide +kernel
theorem dc_B_judge_4 : decode cd_B_judge 4 = .ok (.getfield 175, 3) := by decide +kernel
theorem dc_B_judge_7 : decode cd_B_judge 7 = .ok (.ifCond .ne 4, 3) := by decide +kernel
theorem dc_B_judge_10 : decode cd_B_judge 10 = .ok (.return_, 1) := by decide +kernel
theorem dc_B_judge_11 : decode cd_B_judge 11 = .ok (.aload_n 0, 1) := by decide +kernel
theorem dc_B_judge_12 : decode cd_B_judge 12 = .ok (.getfield 10, 3) := by decide +kernel
theorem dc_B_judge_15 : decode cd_B_judge 15 = .ok (.iconst 0, 1) := by decide +kernel
theorem dc_B_judge_16 : decode cd_B_judge 16 = .ok (.putfield 175, 3) := by decide +kernel
theorem dc_B_judge_19 : decode cd_B_judge 19 = .ok (.aload_n 0, 1) := by decide +kernel
theorem dc_B_judge_20 : decode cd_B_judge 20 = .ok (.getfield 10, 3) := by decide +kernel
theorem dc_B_judge_23 : decode cd_B_judge 23 = .ok (.getfield 39, 3) := by decide +kernel
theorem dc_B_judge_26 : decode cd_B_judge 26 = .ok (.bipush 61, 2) := by decide +kernel
theorem dc_B_judge_28 : decode cd_B_judge 28 = .ok (.if_icmp .lt 28, 3) := by decide +kernel
theorem dc_B_judge_31 : decode cd_B_judge 31 = .ok (.aload_n 0, 1) := by decide +kernel
theorem dc_B_judge_32 : decode cd_B_judge 32 = .ok (.getfield 10, 3) := by decide +kernel
theorem dc_B_judge_35 : decode cd_B_judge 35 = .ok (.bipush 8, 2) := by decide +kernel
theorem dc_B_judge_37 : decode cd_B_judge 37 = .ok (.iconst 4, 1) := by decide +kernel
theorem dc_B_judge_38 : decode cd_B_judge 38 = .ok (.invokevirtual 136, 3) := by decide +kernel
theorem dc_B_judge_41 : decode cd_B_judge 41 = .ok (.aload_n 0, 1) := by decide +kernel
theorem dc_B_judge_42 : decode cd_B_judge 42 = .ok (.getfield 10, 3) := by decide +kernel
theorem dc_B_judge_45 : decode cd_B_judge 45 = .ok (.getfield 39, 3) := by decide +kernel
theorem dc_B_judge_48 : decode cd_B_judge 48 = .ok (.bipush 12, 2) := by decide +kernel
theorem dc_B_judge_50 : decode cd_B_judge 50 = .ok (.isub, 1) := by decide +kernel
theorem dc_B_judge_51 : decode cd_B_judge 51 = .ok (.i2l, 1) := by decide +kernel
theorem dc_B_judge_52 : decode cd_B_judge 52 = .ok (.lcmp, 1) := by decide +kernel
theorem dc_B_judge_53 : decode cd_B_judge 53 = .ok (.ifCond .eq 11, 3) := by decide +kernel
theorem dc_B_judge_56 : decode cd_B_judge 56 = .ok (.aload_n 0, 1) := by decide +kernel
theorem dc_B_judge_57 : decode cd_B_judge 57 = .ok (.iconst 1, 1) := by decide +kernel
theorem dc_B_judge_58 : decode cd_B_judge 58 = .ok (.bipush 8, 2) := by decide +kernel
theorem dc_B_judge_60 : decode cd_B_judge 60 = .ok (.invokevirtual 179, 3) := by decide +kernel
theorem dc_B_judge_63 : decode cd_B_judge 63 = .ok (.return_, 1) := by decide +kernel
theorem dc_B_judge_64 : decode cd_B_judge 64 = .ok (.aload_n 0, 1) := by decide +kernel
theorem dc_B_judge_65 : decode cd_B_judge 65 = .ok (.invokevirtual 182, 3) := by decide +kernel
theorem dc_B_judge_68 : decode cd_B_judge 68 = .ok (.istore_n 1, 1) := by decide +kernel
theorem dc_B_judge_69 : decode cd_B_judge 69 = .ok (.iload_n 1, 1) := by decide +kernel
theorem dc_B_judge_70 : decode cd_B_judge 70 = .ok (.iconst (-1), 1) := by decide +kernel
theorem dc_B_judge_71 : decode cd_B_judge 71 = .ok (.if_icmp .eq 10, 3) := by decide +kernel
theorem dc_B_judge_74 : decode cd_B_judge 74 = .ok (.aload_n 0, 1) := by decide +kernel
theorem dc_B_judge_75 : decode cd_B_judge 75 = .ok (.iconst 2, 1) := by decide +kernel
theorem dc_B_judge_76 : decode cd_B_judge 76 = .ok (.iload_n 1, 1) := by decide +kernel
theorem dc_B_judge_77 : decode cd_B_judge 77 = .ok (.invokevirtual 179, 3) := by decide +kernel
theorem dc_B_judge_80 : decode cd_B_judge 80 = .ok (.return_, 1) := by decide +kernel
theorem dc_B_judge_81 : decode cd_B_judge 81 = .ok (.aload_n 0, 1) := by decide +kernel
theorem dc_B_judge_82 : decode cd_B_judge 82 = .ok (.getfield 10, 3) := by decide +kernel
theorem dc_B_judge_85 : decode cd_B_judge 85 = .ok (.bipush 17, 2) := by decide +kernel
theorem dc_B_judge_87 : decode cd_B_judge 87 = .ok (.iconst 4, 1) := by decide +kernel
theorem dc_B_judge_88 : decode cd_B_judge 88 = .ok (.invokevirtual 136, 3) := by decide +kernel
