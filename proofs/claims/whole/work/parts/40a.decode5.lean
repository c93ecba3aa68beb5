theorem dX5_init_0 : decode cX5_init 0 = .ok (.aload_n 0, 1) := by decide +kernel
theorem dX5_init_1 : decode cX5_init 1 = .ok (.invokespecial 1, 3) := by decide +kernel
theorem dX5_init_4 : decode cX5_init 4 = .ok (.aload_n 0, 1) := by decide +kernel
theorem dX5_init_5 : decode cX5_init 5 = .ok (.sipush 221, 3) := by decide +kernel
theorem dX5_init_8 : decode cX5_init 8 = .ok (.newarray .int, 2) := by decide +kernel
theorem dX5_init_10 : decode cX5_init 10 = .ok (.putfield 7, 3) := by decide +kernel
theorem dX5_init_13 : decode cX5_init 13 = .ok (.aload_n 0, 1) := by decide +kernel
theorem dX5_init_14 : decode cX5_init 14 = .ok (.sipush 221, 3) := by decide +kernel
theorem dX5_init_17 : decode cX5_init 17 = .ok (.newarray .int, 2) := by decide +kernel
theorem dX5_init_19 : decode cX5_init 19 = .ok (.putfield 13, 3) := by decide +kernel
theorem dX5_init_22 : decode cX5_init 22 = .ok (.aload_n 0, 1) := by decide +kernel
theorem dX5_init_23 : decode cX5_init 23 = .ok (.sipush 1768, 3) := by decide +kernel
theorem dX5_init_26 : decode cX5_init 26 = .ok (.newarray .int, 2) := by decide +kernel
theorem dX5_init_28 : decode cX5_init 28 = .ok (.putfield 16, 3) := by decide +kernel
theorem dX5_init_31 : decode cX5_init 31 = .ok (.aload_n 0, 1) := by decide +kernel
theorem dX5_init_32 : decode cX5_init 32 = .ok (.bipush 80, 2) := by decide +kernel
theorem dX5_init_34 : decode cX5_init 34 = .ok (.newarray .int, 2) := by decide +kernel
theorem dX5_init_36 : decode cX5_init 36 = .ok (.putfield 19, 3) := by decide +kernel
theorem dX5_init_39 : decode cX5_init 39 = .ok (.aload_n 0, 1) := by decide +kernel
theorem dX5_init_40 : decode cX5_init 40 = .ok (.bipush 8, 2) := by decide +kernel
theorem dX5_init_42 : decode cX5_init 42 = .ok (.newarray .int, 2) := by decide +kernel
theorem dX5_init_44 : decode cX5_init 44 = .ok (.putfield 22, 3) := by decide +kernel
theorem dX5_init_47 : decode cX5_init 47 = .ok (.aload_n 0, 1) := by decide +kernel
theorem dX5_init_48 : decode cX5_init 48 = .ok (.bipush 8, 2) := by decide +kernel
theorem dX5_init_50 : decode cX5_init 50 = .ok (.newarray .int, 2) := by decide +kernel
theorem dX5_init_52 : decode cX5_init 52 = .ok (.putfield 25, 3) := by decide +kernel
theorem dX5_init_55 : decode cX5_init 55 = .ok (.iconst 0, 1) := by decide +kernel
theorem dX5_init_56 : decode cX5_init 56 = .ok (.istore_n 1, 1) := by decide +kernel
theorem dX5_init_57 : decode cX5_init 57 = .ok (.iload_n 1, 1) := by decide +kernel
theorem dX5_init_58 : decode cX5_init 58 = .ok (.bipush 8, 2) := by decide +kernel
theorem dX5_init_60 : decode cX5_init 60 = .ok (.if_icmp .ge 14, 3) := by decide +kernel
theorem dX5_init_63 : decode cX5_init 63 = .ok (.aload_n 0, 1) := by decide +kernel
theorem dX5_init_64 : decode cX5_init 64 = .ok (.iload_n 1, 1) := by decide +kernel
theorem dX5_init_65 : decode cX5_init 65 = .ok (.invokevirtual 28, 3) := by decide +kernel
theorem dX5_init_68 : decode cX5_init 68 = .ok (.iinc 1 1, 3) := by decide +kernel
theorem dX5_init_71 : decode cX5_init 71 = .ok (.goto (-14), 3) := by decide +kernel
theorem dX5_init_74 : decode cX5_init 74 = .ok (.return_, 1) := by decide +kernel
theorem dX5_thrown_0 : decode cX5_thrown 0 = .ok (.aload_n 0, 1) := by decide +kernel
theorem dX5_thrown_1 : decode cX5_thrown 1 = .ok (.getfield 32, 3) := by decide +kernel
theorem dX5_thrown_4 : decode cX5_thrown 4 = .ok (.ireturn, 1) := by decide +kernel
theorem dX5_in_0 : decode cX5_in 0 = .ok (.iload_n 0, 1) := by decide +kernel
theorem dX5_in_1 : decode cX5_in 1 = .ok (.iload_n 1, 1) := by decide +kernel
theorem dX5_in_2 : decode cX5_in 2 = .ok (.if_icmp .lt 12, 3) := by decide +kernel
theorem dX5_in_5 : decode cX5_in 5 = .ok (.iload_n 0, 1) := by decide +kernel
theorem dX5_in_6 : decode cX5_in 6 = .ok (.iload_n 2, 1) := by decide +kernel
theorem dX5_in_7 : decode cX5_in 7 = .ok (.if_icmp .gt 7, 3) := by decide +kernel
theorem dX5_in_10 : decode cX5_in 10 = .ok (.iconst 1, 1) := by decide +kernel
theorem dX5_in_11 : decode cX5_in 11 = .ok (.goto 4, 3) := by decide +kernel
theorem dX5_in_14 : decode cX5_in 14 = .ok (.iconst 0, 1) := by decide +kernel
theorem dX5_in_15 : decode cX5_in 15 = .ok (.ireturn, 1) := by decide +kernel
theorem dX5_isTransaction_0 : decode cX5_isTransaction 0 = .ok (.iload_n 0, 1) := by decide +kernel
theorem dX5_isTransaction_1 : decode cX5_isTransaction 1 = .ok (.iconst 0, 1) := by decide +kernel
theorem dX5_isTransaction_2 : decode cX5_isTransaction 2 = .ok (.bipush 7, 2) := by decide +kernel
theorem dX5_isTransaction_4 : decode cX5_isTransaction 4 = .ok (.invokestatic 36, 3) := by decide +kernel
theorem dX5_isTransaction_7 : decode cX5_isTransaction 7 = .ok (.ireturn, 1) := by decide +kernel
theorem dX5_isResource_0 : decode cX5_isResource 0 = .ok (.iload_n 0, 1) := by decide +kernel
theorem dX5_isResource_1 : decode cX5_isResource 1 = .ok (.iconst 0, 1) := by decide +kernel
theorem dX5_isResource_2 : decode cX5_isResource 2 = .ok (.bipush 9, 2) := by decide +kernel
theorem dX5_isResource_4 : decode cX5_isResource 4 = .ok (.invokestatic 36, 3) := by decide +kernel
theorem dX5_isResource_7 : decode cX5_isResource 7 = .ok (.ireturn, 1) := by decide +kernel
theorem dX5_isMode_0 : decode cX5_isMode 0 = .ok (.iload_n 0, 1) := by decide +kernel
theorem dX5_isMode_1 : decode cX5_isMode 1 = .ok (.iconst 1, 1) := by decide +kernel
theorem dX5_isMode_2 : decode cX5_isMode 2 = .ok (.iconst 2, 1) := by decide +kernel
theorem dX5_isMode_3 : decode cX5_isMode 3 = .ok (.invokestatic 36, 3) := by decide +kernel
theorem dX5_isMode_6 : decode cX5_isMode 6 = .ok (.ireturn, 1) := by decide +kernel
theorem dX5_of_0 : decode cX5_of 0 = .ok (.aload_n 0, 1) := by decide +kernel
theorem dX5_of_1 : decode cX5_of 1 = .ok (.getfield 7, 3) := by decide +kernel
theorem dX5_of_4 : decode cX5_of 4 = .ok (.bipush 6, 2) := by decide +kernel
theorem dX5_of_6 : decode cX5_of 6 = .ok (.iload_n 1, 1) := by decide +kernel
theorem dX5_of_7 : decode cX5_of 7 = .ok (.imul, 1) := by decide +kernel
theorem dX5_of_8 : decode cX5_of 8 = .ok (.iload_n 2, 1) := by decide +kernel
theorem dX5_of_9 : decode cX5_of 9 = .ok (.iadd, 1) := by decide +kernel
theorem dX5_of_10 : decode cX5_of 10 = .ok (.iaload, 1) := by decide +kernel
theorem dX5_of_11 : decode cX5_of 11 = .ok (.ireturn, 1) := by decide +kernel
theorem dX5_put_0 : decode cX5_put 0 = .ok (.aload_n 0, 1) := by decide +kernel
theorem dX5_put_1 : decode cX5_put 1 = .ok (.getfield 7, 3) := by decide +kernel
theorem dX5_put_4 : decode cX5_put 4 = .ok (.bipush 6, 2) := by decide +kernel
theorem dX5_put_6 : decode cX5_put 6 = .ok (.iload_n 1, 1) := by decide +kernel
theorem dX5_put_7 : decode cX5_put 7 = .ok (.imul, 1) := by decide +kernel
theorem dX5_put_8 : decode cX5_put 8 = .ok (.iload_n 2, 1) := by decide +kernel
theorem dX5_put_9 : decode cX5_put 9 = .ok (.iadd, 1) := by decide +kernel
theorem dX5_put_10 : decode cX5_put 10 = .ok (.iload_n 3, 1) := by decide +kernel
theorem dX5_put_11 : decode cX5_put 11 = .ok (.iastore, 1) := by decide +kernel
theorem dX5_put_12 : decode cX5_put 12 = .ok (.return_, 1) := by decide +kernel
theorem dX5_lock_0 : decode cX5_lock 0 = .ok (.aload_n 0, 1) := by decide +kernel
theorem dX5_lock_1 : decode cX5_lock 1 = .ok (.getfield 7, 3) := by decide +kernel
theorem dX5_lock_4 : decode cX5_lock 4 = .ok (.bipush 48, 2) := by decide +kernel
theorem dX5_lock_6 : decode cX5_lock 6 = .ok (.bipush 10, 2) := by decide +kernel
theorem dX5_lock_8 : decode cX5_lock 8 = .ok (.iload_n 1, 1) := by decide +kernel
theorem dX5_lock_9 : decode cX5_lock 9 = .ok (.imul, 1) := by decide +kernel
theorem dX5_lock_10 : decode cX5_lock 10 = .ok (.iadd, 1) := by decide +kernel
theorem dX5_lock_11 : decode cX5_lock 11 = .ok (.iload_n 2, 1) := by decide +kernel
theorem dX5_lock_12 : decode cX5_lock 12 = .ok (.iadd, 1) := by decide +kernel
theorem dX5_lock_13 : decode cX5_lock 13 = .ok (.iaload, 1) := by decide +kernel
theorem dX5_lock_14 : decode cX5_lock 14 = .ok (.ireturn, 1) := by decide +kernel
theorem dX5_setLock_0 : decode cX5_setLock 0 = .ok (.aload_n 0, 1) := by decide +kernel
theorem dX5_setLock_1 : decode cX5_setLock 1 = .ok (.getfield 7, 3) := by decide +kernel
theorem dX5_setLock_4 : decode cX5_setLock 4 = .ok (.bipush 48, 2) := by decide +kernel
theorem dX5_setLock_6 : decode cX5_setLock 6 = .ok (.bipush 10, 2) := by decide +kernel
theorem dX5_setLock_8 : decode cX5_setLock 8 = .ok (.iload_n 1, 1) := by decide +kernel
theorem dX5_setLock_9 : decode cX5_setLock 9 = .ok (.imul, 1) := by decide +kernel
theorem dX5_setLock_10 : decode cX5_setLock 10 = .ok (.iadd, 1) := by decide +kernel
theorem dX5_setLock_11 : decode cX5_setLock 11 = .ok (.iload_n 2, 1) := by decide +kernel
theorem dX5_setLock_12 : decode cX5_setLock 12 = .ok (.iadd, 1) := by decide +kernel
theorem dX5_setLock_13 : decode cX5_setLock 13 = .ok (.iload_n 3, 1) := by decide +kernel
theorem dX5_setLock_14 : decode cX5_setLock 14 = .ok (.iastore, 1) := by decide +kernel
theorem dX5_setLock_15 : decode cX5_setLock 15 = .ok (.return_, 1) := by decide +kernel
theorem dX5_queueOf_0 : decode cX5_queueOf 0 = .ok (.aload_n 0, 1) := by decide +kernel
theorem dX5_queueOf_1 : decode cX5_queueOf 1 = .ok (.getfield 7, 3) := by decide +kernel
theorem dX5_queueOf_4 : decode cX5_queueOf 4 = .ok (.sipush 128, 3) := by decide +kernel
theorem dX5_queueOf_7 : decode cX5_queueOf 7 = .ok (.bipush 9, 2) := by decide +kernel
theorem dX5_queueOf_9 : decode cX5_queueOf 9 = .ok (.iload_n 1, 1) := by decide +kernel
theorem dX5_queueOf_10 : decode cX5_queueOf 10 = .ok (.imul, 1) := by decide +kernel
theorem dX5_queueOf_11 : decode cX5_queueOf 11 = .ok (.iadd, 1) := by decide +kernel
theorem dX5_queueOf_12 : decode cX5_queueOf 12 = .ok (.iaload, 1) := by decide +kernel
theorem dX5_queueOf_13 : decode cX5_queueOf 13 = .ok (.ireturn, 1) := by decide +kernel
theorem dX5_queuedAt_0 : decode cX5_queuedAt 0 = .ok (.aload_n 0, 1) := by decide +kernel
theorem dX5_queuedAt_1 : decode cX5_queuedAt 1 = .ok (.getfield 7, 3) := by decide +kernel
theorem dX5_queuedAt_4 : decode cX5_queuedAt 4 = .ok (.sipush 128, 3) := by decide +kernel
theorem dX5_queuedAt_7 : decode cX5_queuedAt 7 = .ok (.bipush 9, 2) := by decide +kernel
theorem dX5_queuedAt_9 : decode cX5_queuedAt 9 = .ok (.iload_n 1, 1) := by decide +kernel
theorem dX5_queuedAt_10 : decode cX5_queuedAt 10 = .ok (.imul, 1) := by decide +kernel
theorem dX5_queuedAt_11 : decode cX5_queuedAt 11 = .ok (.iadd, 1) := by decide +kernel
theorem dX5_queuedAt_12 : decode cX5_queuedAt 12 = .ok (.iconst 1, 1) := by decide +kernel
theorem dX5_queuedAt_13 : decode cX5_queuedAt 13 = .ok (.iadd, 1) := by decide +kernel
theorem dX5_queuedAt_14 : decode cX5_queuedAt 14 = .ok (.iload_n 2, 1) := by decide +kernel
theorem dX5_queuedAt_15 : decode cX5_queuedAt 15 = .ok (.iadd, 1) := by decide +kernel
theorem dX5_queuedAt_16 : decode cX5_queuedAt 16 = .ok (.iaload, 1) := by decide +kernel
theorem dX5_queuedAt_17 : decode cX5_queuedAt 17 = .ok (.ireturn, 1) := by decide +kernel
theorem dX5_isActive_0 : decode cX5_isActive 0 = .ok (.aload_n 0, 1) := by decide +kernel
theorem dX5_isActive_1 : decode cX5_isActive 1 = .ok (.iload_n 1, 1) := by decide +kernel
theorem dX5_isActive_2 : decode cX5_isActive 2 = .ok (.iconst 0, 1) := by decide +kernel
theorem dX5_isActive_3 : decode cX5_isActive 3 = .ok (.invokevirtual 40, 3) := by decide +kernel
theorem dX5_isActive_6 : decode cX5_isActive 6 = .ok (.iconst 1, 1) := by decide +kernel
theorem dX5_isActive_7 : decode cX5_isActive 7 = .ok (.if_icmp .ne 7, 3) := by decide +kernel
theorem dX5_isActive_10 : decode cX5_isActive 10 = .ok (.iconst 1, 1) := by decide +kernel
theorem dX5_isActive_11 : decode cX5_isActive 11 = .ok (.goto 4, 3) := by decide +kernel
theorem dX5_isActive_14 : decode cX5_isActive 14 = .ok (.iconst 0, 1) := by decide +kernel
theorem dX5_isActive_15 : decode cX5_isActive 15 = .ok (.ireturn, 1) := by decide +kernel
theorem dX5_end_0 : decode cX5_end 0 = .ok (.iconst 0, 1) := by decide +kernel
theorem dX5_end_1 : decode cX5_end 1 = .ok (.istore_n 2, 1) := by decide +kernel
theorem dX5_end_2 : decode cX5_end 2 = .ok (.iload_n 2, 1) := by decide +kernel
theorem dX5_end_3 : decode cX5_end 3 = .ok (.iconst 5, 1) := by decide +kernel
theorem dX5_end_4 : decode cX5_end 4 = .ok (.if_icmp .gt 16, 3) := by decide +kernel
theorem dX5_end_7 : decode cX5_end 7 = .ok (.aload_n 0, 1) := by decide +kernel
theorem dX5_end_8 : decode cX5_end 8 = .ok (.iload_n 1, 1) := by decide +kernel
theorem dX5_end_9 : decode cX5_end 9 = .ok (.iload_n 2, 1) := by decide +kernel
theorem dX5_end_10 : decode cX5_end 10 = .ok (.iconst 0, 1) := by decide +kernel
theorem dX5_end_11 : decode cX5_end 11 = .ok (.invokevirtual 44, 3) := by decide +kernel
theorem dX5_end_14 : decode cX5_end 14 = .ok (.iinc 2 1, 3) := by decide +kernel
theorem dX5_end_17 : decode cX5_end 17 = .ok (.goto (-15), 3) := by decide +kernel
theorem dX5_end_20 : decode cX5_end 20 = .ok (.aload_n 0, 1) := by decide +kernel
theorem dX5_end_21 : decode cX5_end 21 = .ok (.iload_n 1, 1) := by decide +kernel
theorem dX5_end_22 : decode cX5_end 22 = .ok (.iconst 1, 1) := by decide +kernel
theorem dX5_end_23 : decode cX5_end 23 = .ok (.iconst (-1), 1) := by decide +kernel
theorem dX5_end_24 : decode cX5_end 24 = .ok (.invokevirtual 44, 3) := by decide +kernel
theorem dX5_end_27 : decode cX5_end 27 = .ok (.aload_n 0, 1) := by decide +kernel
theorem dX5_end_28 : decode cX5_end 28 = .ok (.iload_n 1, 1) := by decide +kernel
theorem dX5_end_29 : decode cX5_end 29 = .ok (.iconst 2, 1) := by decide +kernel
theorem dX5_end_30 : decode cX5_end 30 = .ok (.iconst (-1), 1) := by decide +kernel
theorem dX5_end_31 : decode cX5_end 31 = .ok (.invokevirtual 44, 3) := by decide +kernel
theorem dX5_end_34 : decode cX5_end 34 = .ok (.aload_n 0, 1) := by decide +kernel
theorem dX5_end_35 : decode cX5_end 35 = .ok (.iload_n 1, 1) := by decide +kernel
theorem dX5_end_36 : decode cX5_end 36 = .ok (.iconst 3, 1) := by decide +kernel
theorem dX5_end_37 : decode cX5_end 37 = .ok (.iconst (-1), 1) := by decide +kernel
theorem dX5_end_38 : decode cX5_end 38 = .ok (.invokevirtual 44, 3) := by decide +kernel
theorem dX5_end_41 : decode cX5_end 41 = .ok (.aload_n 0, 1) := by decide +kernel
theorem dX5_end_42 : decode cX5_end 42 = .ok (.iload_n 1, 1) := by decide +kernel
theorem dX5_end_43 : decode cX5_end 43 = .ok (.iconst 4, 1) := by decide +kernel
theorem dX5_end_44 : decode cX5_end 44 = .ok (.iconst (-1), 1) := by decide +kernel
theorem dX5_end_45 : decode cX5_end 45 = .ok (.invokevirtual 44, 3) := by decide +kernel
theorem dX5_end_48 : decode cX5_end 48 = .ok (.return_, 1) := by decide +kernel
theorem dX5_save_0 : decode cX5_save 0 = .ok (.aload_n 0, 1) := by decide +kernel
theorem dX5_save_1 : decode cX5_save 1 = .ok (.getfield 48, 3) := by decide +kernel
theorem dX5_save_4 : decode cX5_save 4 = .ok (.bipush 8, 2) := by decide +kernel
theorem dX5_save_6 : decode cX5_save 6 = .ok (.if_icmp .ne 44, 3) := by decide +kernel
theorem dX5_save_9 : decode cX5_save 9 = .ok (.iconst 0, 1) := by decide +kernel
theorem dX5_save_10 : decode cX5_save 10 = .ok (.istore_n 1, 1) := by decide +kernel
theorem dX5_save_11 : decode cX5_save 11 = .ok (.iload_n 1, 1) := by decide +kernel
theorem dX5_save_12 : decode cX5_save 12 = .ok (.sipush 1547, 3) := by decide +kernel
theorem dX5_save_15 : decode cX5_save 15 = .ok (.if_icmp .ge 25, 3) := by decide +kernel
theorem dX5_save_18 : decode cX5_save 18 = .ok (.aload_n 0, 1) := by decide +kernel
theorem dX5_save_19 : decode cX5_save 19 = .ok (.getfield 16, 3) := by decide +kernel
theorem dX5_save_22 : decode cX5_save 22 = .ok (.iload_n 1, 1) := by decide +kernel
theorem dX5_save_23 : decode cX5_save 23 = .ok (.aload_n 0, 1) := by decide +kernel
theorem dX5_save_24 : decode cX5_save 24 = .ok (.getfield 16, 3) := by decide +kernel
theorem dX5_save_27 : decode cX5_save 27 = .ok (.sipush 221, 3) := by decide +kernel
theorem dX5_save_30 : decode cX5_save 30 = .ok (.iload_n 1, 1) := by decide +kernel
theorem dX5_save_31 : decode cX5_save 31 = .ok (.iadd, 1) := by decide +kernel
theorem dX5_save_32 : decode cX5_save 32 = .ok (.iaload, 1) := by decide +kernel
theorem dX5_save_33 : decode cX5_save 33 = .ok (.iastore, 1) := by decide +kernel
theorem dX5_save_34 : decode cX5_save 34 = .ok (.iinc 1 1, 3) := by decide +kernel
theorem dX5_save_37 : decode cX5_save 37 = .ok (.goto (-26), 3) := by decide +kernel
theorem dX5_save_40 : decode cX5_save 40 = .ok (.aload_n 0, 1) := by decide +kernel
theorem dX5_save_41 : decode cX5_save 41 = .ok (.dup, 1) := by decide +kernel
theorem dX5_save_42 : decode cX5_save 42 = .ok (.getfield 48, 3) := by decide +kernel
theorem dX5_save_45 : decode cX5_save 45 = .ok (.iconst 1, 1) := by decide +kernel
theorem dX5_save_46 : decode cX5_save 46 = .ok (.isub, 1) := by decide +kernel
theorem dX5_save_47 : decode cX5_save 47 = .ok (.putfield 48, 3) := by decide +kernel
theorem dX5_save_50 : decode cX5_save 50 = .ok (.iconst 0, 1) := by decide +kernel
theorem dX5_save_51 : decode cX5_save 51 = .ok (.istore_n 1, 1) := by decide +kernel
theorem dX5_save_52 : decode cX5_save 52 = .ok (.iload_n 1, 1) := by decide +kernel
theorem dX5_save_53 : decode cX5_save 53 = .ok (.sipush 221, 3) := by decide +kernel
theorem dX5_save_56 : decode cX5_save 56 = .ok (.if_icmp .ge 30, 3) := by decide +kernel
theorem dX5_save_59 : decode cX5_save 59 = .ok (.aload_n 0, 1) := by decide +kernel
theorem dX5_save_60 : decode cX5_save 60 = .ok (.getfield 16, 3) := by decide +kernel
theorem dX5_save_63 : decode cX5_save 63 = .ok (.sipush 221, 3) := by decide +kernel
theorem dX5_save_66 : decode cX5_save 66 = .ok (.aload_n 0, 1) := by decide +kernel
theorem dX5_save_67 : decode cX5_save 67 = .ok (.getfield 48, 3) := by decide +kernel
theorem dX5_save_70 : decode cX5_save 70 = .ok (.imul, 1) := by decide +kernel
theorem dX5_save_71 : decode cX5_save 71 = .ok (.iload_n 1, 1) := by decide +kernel
theorem dX5_save_72 : decode cX5_save 72 = .ok (.iadd, 1) := by decide +kernel
theorem dX5_save_73 : decode cX5_save 73 = .ok (.aload_n 0, 1) := by decide +kernel
theorem dX5_save_74 : decode cX5_save 74 = .ok (.getfield 7, 3) := by decide +kernel
theorem dX5_save_77 : decode cX5_save 77 = .ok (.iload_n 1, 1) := by decide +kernel
theorem dX5_save_78 : decode cX5_save 78 = .ok (.iaload, 1) := by decide +kernel
theorem dX5_save_79 : decode cX5_save 79 = .ok (.iastore, 1) := by decide +kernel
theorem dX5_save_80 : decode cX5_save 80 = .ok (.iinc 1 1, 3) := by decide +kernel
theorem dX5_save_83 : decode cX5_save 83 = .ok (.goto (-31), 3) := by decide +kernel
theorem dX5_save_86 : decode cX5_save 86 = .ok (.aload_n 0, 1) := by decide +kernel
theorem dX5_save_87 : decode cX5_save 87 = .ok (.dup, 1) := by decide +kernel
theorem dX5_save_88 : decode cX5_save 88 = .ok (.getfield 48, 3) := by decide +kernel
theorem dX5_save_91 : decode cX5_save 91 = .ok (.iconst 1, 1) := by decide +kernel
theorem dX5_save_92 : decode cX5_save 92 = .ok (.iadd, 1) := by decide +kernel
theorem dX5_save_93 : decode cX5_save 93 = .ok (.putfield 48, 3) := by decide +kernel
theorem dX5_save_96 : decode cX5_save 96 = .ok (.return_, 1) := by decide +kernel
theorem dX5_undo_0 : decode cX5_undo 0 = .ok (.aload_n 0, 1) := by decide +kernel
theorem dX5_undo_1 : decode cX5_undo 1 = .ok (.aload_n 0, 1) := by decide +kernel
theorem dX5_undo_2 : decode cX5_undo 2 = .ok (.getfield 48, 3) := by decide +kernel
theorem dX5_undo_5 : decode cX5_undo 5 = .ok (.ifCond .ne 7, 3) := by decide +kernel
theorem dX5_undo_8 : decode cX5_undo 8 = .ok (.iconst 1, 1) := by decide +kernel
theorem dX5_undo_9 : decode cX5_undo 9 = .ok (.goto 4, 3) := by decide +kernel
theorem dX5_undo_12 : decode cX5_undo 12 = .ok (.iconst 0, 1) := by decide +kernel
theorem dX5_undo_13 : decode cX5_undo 13 = .ok (.putfield 32, 3) := by decide +kernel
theorem dX5_undo_16 : decode cX5_undo 16 = .ok (.aload_n 0, 1) := by decide +kernel
theorem dX5_undo_17 : decode cX5_undo 17 = .ok (.getfield 32, 3) := by decide +kernel
theorem dX5_undo_20 : decode cX5_undo 20 = .ok (.ifCond .le 5, 3) := by decide +kernel
theorem dX5_undo_23 : decode cX5_undo 23 = .ok (.iconst 0, 1) := by decide +kernel
theorem dX5_undo_24 : decode cX5_undo 24 = .ok (.ireturn, 1) := by decide +kernel
theorem dX5_undo_25 : decode cX5_undo 25 = .ok (.aload_n 0, 1) := by decide +kernel
theorem dX5_undo_26 : decode cX5_undo 26 = .ok (.dup, 1) := by decide +kernel
theorem dX5_undo_27 : decode cX5_undo 27 = .ok (.getfield 48, 3) := by decide +kernel
theorem dX5_undo_30 : decode cX5_undo 30 = .ok (.iconst 1, 1) := by decide +kernel
theorem dX5_undo_31 : decode cX5_undo 31 = .ok (.isub, 1) := by decide +kernel
theorem dX5_undo_32 : decode cX5_undo 32 = .ok (.putfield 48, 3) := by decide +kernel
theorem dX5_undo_35 : decode cX5_undo 35 = .ok (.iconst 0, 1) := by decide +kernel
theorem dX5_undo_36 : decode cX5_undo 36 = .ok (.istore_n 1, 1) := by decide +kernel
theorem dX5_undo_37 : decode cX5_undo 37 = .ok (.iload_n 1, 1) := by decide +kernel
theorem dX5_undo_38 : decode cX5_undo 38 = .ok (.sipush 221, 3) := by decide +kernel
theorem dX5_undo_41 : decode cX5_undo 41 = .ok (.if_icmp .ge 30, 3) := by decide +kernel
theorem dX5_undo_44 : decode cX5_undo 44 = .ok (.aload_n 0, 1) := by decide +kernel
theorem dX5_undo_45 : decode cX5_undo 45 = .ok (.getfield 7, 3) := by decide +kernel
theorem dX5_undo_48 : decode cX5_undo 48 = .ok (.iload_n 1, 1) := by decide +kernel
theorem dX5_undo_49 : decode cX5_undo 49 = .ok (.aload_n 0, 1) := by decide +kernel
theorem dX5_undo_50 : decode cX5_undo 50 = .ok (.getfield 16, 3) := by decide +kernel
theorem dX5_undo_53 : decode cX5_undo 53 = .ok (.sipush 221, 3) := by decide +kernel
theorem dX5_undo_56 : decode cX5_undo 56 = .ok (.aload_n 0, 1) := by decide +kernel
theorem dX5_undo_57 : decode cX5_undo 57 = .ok (.getfield 48, 3) := by decide +kernel
theorem dX5_undo_60 : decode cX5_undo 60 = .ok (.imul, 1) := by decide +kernel
theorem dX5_undo_61 : decode cX5_undo 61 = .ok (.iload_n 1, 1) := by decide +kernel
theorem dX5_undo_62 : decode cX5_undo 62 = .ok (.iadd, 1) := by decide +kernel
theorem dX5_undo_63 : decode cX5_undo 63 = .ok (.iaload, 1) := by decide +kernel
theorem dX5_undo_64 : decode cX5_undo 64 = .ok (.iastore, 1) := by decide +kernel
theorem dX5_undo_65 : decode cX5_undo 65 = .ok (.iinc 1 1, 3) := by decide +kernel
theorem dX5_undo_68 : decode cX5_undo 68 = .ok (.goto (-31), 3) := by decide +kernel
theorem dX5_undo_71 : decode cX5_undo 71 = .ok (.aload_n 0, 1) := by decide +kernel
theorem dX5_undo_72 : decode cX5_undo 72 = .ok (.getfield 48, 3) := by decide +kernel
theorem dX5_undo_75 : decode cX5_undo 75 = .ok (.ireturn, 1) := by decide +kernel
theorem dX5_isCompatible_0 : decode cX5_isCompatible 0 = .ok (.iload_n 1, 1) := by decide +kernel
theorem dX5_isCompatible_1 : decode cX5_isCompatible 1 = .ok (.ifCond .eq 13, 3) := by decide +kernel
theorem dX5_isCompatible_4 : decode cX5_isCompatible 4 = .ok (.iload_n 0, 1) := by decide +kernel
theorem dX5_isCompatible_5 : decode cX5_isCompatible 5 = .ok (.iconst 1, 1) := by decide +kernel
theorem dX5_isCompatible_6 : decode cX5_isCompatible 6 = .ok (.if_icmp .ne 12, 3) := by decide +kernel
theorem dX5_isCompatible_9 : decode cX5_isCompatible 9 = .ok (.iload_n 1, 1) := by decide +kernel
theorem dX5_isCompatible_10 : decode cX5_isCompatible 10 = .ok (.iconst 1, 1) := by decide +kernel
theorem dX5_isCompatible_11 : decode cX5_isCompatible 11 = .ok (.if_icmp .ne 7, 3) := by decide +kernel
theorem dX5_isCompatible_14 : decode cX5_isCompatible 14 = .ok (.iconst 1, 1) := by decide +kernel
theorem dX5_isCompatible_15 : decode cX5_isCompatible 15 = .ok (.goto 4, 3) := by decide +kernel
theorem dX5_isCompatible_18 : decode cX5_isCompatible 18 = .ok (.iconst 0, 1) := by decide +kernel
theorem dX5_isCompatible_19 : decode cX5_isCompatible 19 = .ok (.ireturn, 1) := by decide +kernel
theorem dX5_canHold_0 : decode cX5_canHold 0 = .ok (.iconst 1, 1) := by decide +kernel
theorem dX5_canHold_1 : decode cX5_canHold 1 = .ok (.istore 4, 2) := by decide +kernel
theorem dX5_canHold_3 : decode cX5_canHold 3 = .ok (.iconst 0, 1) := by decide +kernel
theorem dX5_canHold_4 : decode cX5_canHold 4 = .ok (.istore 5, 2) := by decide +kernel
theorem dX5_canHold_6 : decode cX5_canHold 6 = .ok (.iload 5, 2) := by decide +kernel
theorem dX5_canHold_8 : decode cX5_canHold 8 = .ok (.bipush 8, 2) := by decide +kernel
theorem dX5_canHold_10 : decode cX5_canHold 10 = .ok (.if_icmp .ge 41, 3) := by decide +kernel
theorem dX5_canHold_13 : decode cX5_canHold 13 = .ok (.iload 4, 2) := by decide +kernel
theorem dX5_canHold_15 : decode cX5_canHold 15 = .ok (.ifCond .eq 27, 3) := by decide +kernel
theorem dX5_canHold_18 : decode cX5_canHold 18 = .ok (.iload 5, 2) := by decide +kernel
theorem dX5_canHold_20 : decode cX5_canHold 20 = .ok (.iload_n 1, 1) := by decide +kernel
theorem dX5_canHold_21 : decode cX5_canHold 21 = .ok (.if_icmp .eq 17, 3) := by decide +kernel
theorem dX5_canHold_24 : decode cX5_canHold 24 = .ok (.iload_n 3, 1) := by decide +kernel
theorem dX5_canHold_25 : decode cX5_canHold 25 = .ok (.aload_n 0, 1) := by decide +kernel
theorem dX5_canHold_26 : decode cX5_canHold 26 = .ok (.iload 5, 2) := by decide +kernel
theorem dX5_canHold_28 : decode cX5_canHold 28 = .ok (.iload_n 2, 1) := by decide +kernel
theorem dX5_canHold_29 : decode cX5_canHold 29 = .ok (.invokevirtual 51, 3) := by decide +kernel
theorem dX5_canHold_32 : decode cX5_canHold 32 = .ok (.invokestatic 54, 3) := by decide +kernel
theorem dX5_canHold_35 : decode cX5_canHold 35 = .ok (.ifCond .eq 7, 3) := by decide +kernel
theorem dX5_canHold_38 : decode cX5_canHold 38 = .ok (.iconst 1, 1) := by decide +kernel
theorem dX5_canHold_39 : decode cX5_canHold 39 = .ok (.goto 4, 3) := by decide +kernel
theorem dX5_canHold_42 : decode cX5_canHold 42 = .ok (.iconst 0, 1) := by decide +kernel
theorem dX5_canHold_43 : decode cX5_canHold 43 = .ok (.istore 4, 2) := by decide +kernel
theorem dX5_canHold_45 : decode cX5_canHold 45 = .ok (.iinc 5 1, 3) := by decide +kernel
theorem dX5_canHold_48 : decode cX5_canHold 48 = .ok (.goto (-42), 3) := by decide +kernel
theorem dX5_canHold_51 : decode cX5_canHold 51 = .ok (.iload 4, 2) := by decide +kernel
theorem dX5_canHold_53 : decode cX5_canHold 53 = .ok (.ireturn, 1) := by decide +kernel
theorem dX5_isOnlyHolder_0 : decode cX5_isOnlyHolder 0 = .ok (.iconst 1, 1) := by decide +kernel
theorem dX5_isOnlyHolder_1 : decode cX5_isOnlyHolder 1 = .ok (.istore_n 3, 1) := by decide +kernel
theorem dX5_isOnlyHolder_2 : decode cX5_isOnlyHolder 2 = .ok (.iconst 0, 1) := by decide +kernel
theorem dX5_isOnlyHolder_3 : decode cX5_isOnlyHolder 3 = .ok (.istore 4, 2) := by decide +kernel
theorem dX5_isOnlyHolder_5 : decode cX5_isOnlyHolder 5 = .ok (.iload 4, 2) := by decide +kernel
theorem dX5_isOnlyHolder_7 : decode cX5_isOnlyHolder 7 = .ok (.bipush 8, 2) := by decide +kernel
theorem dX5_isOnlyHolder_9 : decode cX5_isOnlyHolder 9 = .ok (.if_icmp .ge 35, 3) := by decide +kernel
theorem dX5_isOnlyHolder_12 : decode cX5_isOnlyHolder 12 = .ok (.iload_n 3, 1) := by decide +kernel
theorem dX5_isOnlyHolder_13 : decode cX5_isOnlyHolder 13 = .ok (.ifCond .eq 23, 3) := by decide +kernel
theorem dX5_isOnlyHolder_16 : decode cX5_isOnlyHolder 16 = .ok (.iload 4, 2) := by decide +kernel
theorem dX5_isOnlyHolder_18 : decode cX5_isOnlyHolder 18 = .ok (.iload_n 1, 1) := by decide +kernel
theorem dX5_isOnlyHolder_19 : decode cX5_isOnlyHolder 19 = .ok (.if_icmp .eq 13, 3) := by decide +kernel
theorem dX5_isOnlyHolder_22 : decode cX5_isOnlyHolder 22 = .ok (.aload_n 0, 1) := by decide +kernel
theorem dX5_isOnlyHolder_23 : decode cX5_isOnlyHolder 23 = .ok (.iload 4, 2) := by decide +kernel
theorem dX5_isOnlyHolder_25 : decode cX5_isOnlyHolder 25 = .ok (.iload_n 2, 1) := by decide +kernel
theorem dX5_isOnlyHolder_26 : decode cX5_isOnlyHolder 26 = .ok (.invokevirtual 51, 3) := by decide +kernel
theorem dX5_isOnlyHolder_29 : decode cX5_isOnlyHolder 29 = .ok (.ifCond .ne 7, 3) := by decide +kernel
theorem dX5_isOnlyHolder_32 : decode cX5_isOnlyHolder 32 = .ok (.iconst 1, 1) := by decide +kernel
theorem dX5_isOnlyHolder_33 : decode cX5_isOnlyHolder 33 = .ok (.goto 4, 3) := by decide +kernel
theorem dX5_isOnlyHolder_36 : decode cX5_isOnlyHolder 36 = .ok (.iconst 0, 1) := by decide +kernel
theorem dX5_isOnlyHolder_37 : decode cX5_isOnlyHolder 37 = .ok (.istore_n 3, 1) := by decide +kernel
theorem dX5_isOnlyHolder_38 : decode cX5_isOnlyHolder 38 = .ok (.iinc 4 1, 3) := by decide +kernel
theorem dX5_isOnlyHolder_41 : decode cX5_isOnlyHolder 41 = .ok (.goto (-36), 3) := by decide +kernel
theorem dX5_isOnlyHolder_44 : decode cX5_isOnlyHolder 44 = .ok (.iload_n 3, 1) := by decide +kernel
theorem dX5_isOnlyHolder_45 : decode cX5_isOnlyHolder 45 = .ok (.ireturn, 1) := by decide +kernel
theorem dX5_grant_0 : decode cX5_grant 0 = .ok (.aload_n 0, 1) := by decide +kernel
theorem dX5_grant_1 : decode cX5_grant 1 = .ok (.iload_n 1, 1) := by decide +kernel
theorem dX5_grant_2 : decode cX5_grant 2 = .ok (.iload_n 2, 1) := by decide +kernel
theorem dX5_grant_3 : decode cX5_grant 3 = .ok (.iload_n 3, 1) := by decide +kernel
theorem dX5_grant_4 : decode cX5_grant 4 = .ok (.invokevirtual 58, 3) := by decide +kernel
theorem dX5_grant_7 : decode cX5_grant 7 = .ok (.aload_n 0, 1) := by decide +kernel
theorem dX5_grant_8 : decode cX5_grant 8 = .ok (.iload_n 1, 1) := by decide +kernel
theorem dX5_grant_9 : decode cX5_grant 9 = .ok (.iconst 1, 1) := by decide +kernel
theorem dX5_grant_10 : decode cX5_grant 10 = .ok (.aload_n 0, 1) := by decide +kernel
theorem dX5_grant_11 : decode cX5_grant 11 = .ok (.iload_n 1, 1) := by decide +kernel
theorem dX5_grant_12 : decode cX5_grant 12 = .ok (.iconst 1, 1) := by decide +kernel
theorem dX5_grant_13 : decode cX5_grant 13 = .ok (.invokevirtual 40, 3) := by decide +kernel
theorem dX5_grant_16 : decode cX5_grant 16 = .ok (.iconst 1, 1) := by decide +kernel
theorem dX5_grant_17 : decode cX5_grant 17 = .ok (.iadd, 1) := by decide +kernel
theorem dX5_grant_18 : decode cX5_grant 18 = .ok (.invokevirtual 44, 3) := by decide +kernel
theorem dX5_grant_21 : decode cX5_grant 21 = .ok (.return_, 1) := by decide +kernel
theorem dX5_isUpgrade_0 : decode cX5_isUpgrade 0 = .ok (.aload_n 0, 1) := by decide +kernel
theorem dX5_isUpgrade_1 : decode cX5_isUpgrade 1 = .ok (.iload_n 1, 1) := by decide +kernel
theorem dX5_isUpgrade_2 : decode cX5_isUpgrade 2 = .ok (.iload_n 2, 1) := by decide +kernel
theorem dX5_isUpgrade_3 : decode cX5_isUpgrade 3 = .ok (.invokevirtual 51, 3) := by decide +kernel
theorem dX5_isUpgrade_6 : decode cX5_isUpgrade 6 = .ok (.iconst 1, 1) := by decide +kernel
theorem dX5_isUpgrade_7 : decode cX5_isUpgrade 7 = .ok (.if_icmp .ne 7, 3) := by decide +kernel
theorem dX5_isUpgrade_10 : decode cX5_isUpgrade 10 = .ok (.iconst 1, 1) := by decide +kernel
theorem dX5_isUpgrade_11 : decode cX5_isUpgrade 11 = .ok (.goto 4, 3) := by decide +kernel
theorem dX5_isUpgrade_14 : decode cX5_isUpgrade 14 = .ok (.iconst 0, 1) := by decide +kernel
theorem dX5_isUpgrade_15 : decode cX5_isUpgrade 15 = .ok (.ireturn, 1) := by decide +kernel
theorem dX5_enqueue_0 : decode cX5_enqueue 0 = .ok (.aload_n 0, 1) := by decide +kernel
theorem dX5_enqueue_1 : decode cX5_enqueue 1 = .ok (.iload_n 2, 1) := by decide +kernel
theorem dX5_enqueue_2 : decode cX5_enqueue 2 = .ok (.invokevirtual 61, 3) := by decide +kernel
theorem dX5_enqueue_5 : decode cX5_enqueue 5 = .ok (.istore 5, 2) := by decide +kernel
theorem dX5_enqueue_7 : decode cX5_enqueue 7 = .ok (.iload 5, 2) := by decide +kernel
theorem dX5_enqueue_9 : decode cX5_enqueue 9 = .ok (.iload 4, 2) := by decide +kernel
theorem dX5_enqueue_11 : decode cX5_enqueue 11 = .ok (.if_icmp .le 43, 3) := by decide +kernel
theorem dX5_enqueue_14 : decode cX5_enqueue 14 = .ok (.aload_n 0, 1) := by decide +kernel
theorem dX5_enqueue_15 : decode cX5_enqueue 15 = .ok (.getfield 7, 3) := by decide +kernel
theorem dX5_enqueue_18 : decode cX5_enqueue 18 = .ok (.sipush 128, 3) := by decide +kernel
theorem dX5_enqueue_21 : decode cX5_enqueue 21 = .ok (.bipush 9, 2) := by decide +kernel
theorem dX5_enqueue_23 : decode cX5_enqueue 23 = .ok (.iload_n 2, 1) := by decide +kernel
theorem dX5_enqueue_24 : decode cX5_enqueue 24 = .ok (.imul, 1) := by decide +kernel
theorem dX5_enqueue_25 : decode cX5_enqueue 25 = .ok (.iadd, 1) := by decide +kernel
theorem dX5_enqueue_26 : decode cX5_enqueue 26 = .ok (.iconst 1, 1) := by decide +kernel
theorem dX5_enqueue_27 : decode cX5_enqueue 27 = .ok (.iadd, 1) := by decide +kernel
theorem dX5_enqueue_28 : decode cX5_enqueue 28 = .ok (.iload 5, 2) := by decide +kernel
theorem dX5_enqueue_30 : decode cX5_enqueue 30 = .ok (.iadd, 1) := by decide +kernel
theorem dX5_enqueue_31 : decode cX5_enqueue 31 = .ok (.aload_n 0, 1) := by decide +kernel
theorem dX5_enqueue_32 : decode cX5_enqueue 32 = .ok (.getfield 7, 3) := by decide +kernel
theorem dX5_enqueue_35 : decode cX5_enqueue 35 = .ok (.sipush 128, 3) := by decide +kernel
theorem dX5_enqueue_38 : decode cX5_enqueue 38 = .ok (.bipush 9, 2) := by decide +kernel
theorem dX5_enqueue_40 : decode cX5_enqueue 40 = .ok (.iload_n 2, 1) := by decide +kernel
theorem dX5_enqueue_41 : decode cX5_enqueue 41 = .ok (.imul, 1) := by decide +kernel
theorem dX5_enqueue_42 : decode cX5_enqueue 42 = .ok (.iadd, 1) := by decide +kernel
theorem dX5_enqueue_43 : decode cX5_enqueue 43 = .ok (.iload 5, 2) := by decide +kernel
theorem dX5_enqueue_45 : decode cX5_enqueue 45 = .ok (.iadd, 1) := by decide +kernel
theorem dX5_enqueue_46 : decode cX5_enqueue 46 = .ok (.iaload, 1) := by decide +kernel
theorem dX5_enqueue_47 : decode cX5_enqueue 47 = .ok (.iastore, 1) := by decide +kernel
theorem dX5_enqueue_48 : decode cX5_enqueue 48 = .ok (.iinc 5 (-1), 3) := by decide +kernel
theorem dX5_enqueue_51 : decode cX5_enqueue 51 = .ok (.goto (-44), 3) := by decide +kernel
theorem dX5_enqueue_54 : decode cX5_enqueue 54 = .ok (.aload_n 0, 1) := by decide +kernel
theorem dX5_enqueue_55 : decode cX5_enqueue 55 = .ok (.getfield 7, 3) := by decide +kernel
theorem dX5_enqueue_58 : decode cX5_enqueue 58 = .ok (.sipush 128, 3) := by decide +kernel
theorem dX5_enqueue_61 : decode cX5_enqueue 61 = .ok (.bipush 9, 2) := by decide +kernel
theorem dX5_enqueue_63 : decode cX5_enqueue 63 = .ok (.iload_n 2, 1) := by decide +kernel
theorem dX5_enqueue_64 : decode cX5_enqueue 64 = .ok (.imul, 1) := by decide +kernel
theorem dX5_enqueue_65 : decode cX5_enqueue 65 = .ok (.iadd, 1) := by decide +kernel
theorem dX5_enqueue_66 : decode cX5_enqueue 66 = .ok (.iconst 1, 1) := by decide +kernel
theorem dX5_enqueue_67 : decode cX5_enqueue 67 = .ok (.iadd, 1) := by decide +kernel
theorem dX5_enqueue_68 : decode cX5_enqueue 68 = .ok (.iload 4, 2) := by decide +kernel
theorem dX5_enqueue_70 : decode cX5_enqueue 70 = .ok (.iadd, 1) := by decide +kernel
theorem dX5_enqueue_71 : decode cX5_enqueue 71 = .ok (.iload_n 1, 1) := by decide +kernel
theorem dX5_enqueue_72 : decode cX5_enqueue 72 = .ok (.iastore, 1) := by decide +kernel
theorem dX5_enqueue_73 : decode cX5_enqueue 73 = .ok (.aload_n 0, 1) := by decide +kernel
theorem dX5_enqueue_74 : decode cX5_enqueue 74 = .ok (.getfield 7, 3) := by decide +kernel
theorem dX5_enqueue_77 : decode cX5_enqueue 77 = .ok (.sipush 128, 3) := by decide +kernel
theorem dX5_enqueue_80 : decode cX5_enqueue 80 = .ok (.bipush 9, 2) := by decide +kernel
theorem dX5_enqueue_82 : decode cX5_enqueue 82 = .ok (.iload_n 2, 1) := by decide +kernel
theorem dX5_enqueue_83 : decode cX5_enqueue 83 = .ok (.imul, 1) := by decide +kernel
theorem dX5_enqueue_84 : decode cX5_enqueue 84 = .ok (.iadd, 1) := by decide +kernel
theorem dX5_enqueue_85 : decode cX5_enqueue 85 = .ok (.dup2, 1) := by decide +kernel
theorem dX5_enqueue_86 : decode cX5_enqueue 86 = .ok (.iaload, 1) := by decide +kernel
theorem dX5_enqueue_87 : decode cX5_enqueue 87 = .ok (.iconst 1, 1) := by decide +kernel
theorem dX5_enqueue_88 : decode cX5_enqueue 88 = .ok (.iadd, 1) := by decide +kernel
theorem dX5_enqueue_89 : decode cX5_enqueue 89 = .ok (.iastore, 1) := by decide +kernel
theorem dX5_enqueue_90 : decode cX5_enqueue 90 = .ok (.aload_n 0, 1) := by decide +kernel
theorem dX5_enqueue_91 : decode cX5_enqueue 91 = .ok (.iload_n 1, 1) := by decide +kernel
theorem dX5_enqueue_92 : decode cX5_enqueue 92 = .ok (.iconst 0, 1) := by decide +kernel
theorem dX5_enqueue_93 : decode cX5_enqueue 93 = .ok (.iconst 2, 1) := by decide +kernel
theorem dX5_enqueue_94 : decode cX5_enqueue 94 = .ok (.invokevirtual 44, 3) := by decide +kernel
theorem dX5_enqueue_97 : decode cX5_enqueue 97 = .ok (.aload_n 0, 1) := by decide +kernel
theorem dX5_enqueue_98 : decode cX5_enqueue 98 = .ok (.iload_n 1, 1) := by decide +kernel
theorem dX5_enqueue_99 : decode cX5_enqueue 99 = .ok (.iconst 4, 1) := by decide +kernel
theorem dX5_enqueue_100 : decode cX5_enqueue 100 = .ok (.iload_n 2, 1) := by decide +kernel
theorem dX5_enqueue_101 : decode cX5_enqueue 101 = .ok (.invokevirtual 44, 3) := by decide +kernel
theorem dX5_enqueue_104 : decode cX5_enqueue 104 = .ok (.aload_n 0, 1) := by decide +kernel
theorem dX5_enqueue_105 : decode cX5_enqueue 105 = .ok (.iload_n 1, 1) := by decide +kernel
theorem dX5_enqueue_106 : decode cX5_enqueue 106 = .ok (.iconst 5, 1) := by decide +kernel
theorem dX5_enqueue_107 : decode cX5_enqueue 107 = .ok (.iload_n 3, 1) := by decide +kernel
theorem dX5_enqueue_108 : decode cX5_enqueue 108 = .ok (.invokevirtual 44, 3) := by decide +kernel
theorem dX5_enqueue_111 : decode cX5_enqueue 111 = .ok (.return_, 1) := by decide +kernel
theorem dX5_indexOf_0 : decode cX5_indexOf 0 = .ok (.iconst 0, 1) := by decide +kernel
theorem dX5_indexOf_1 : decode cX5_indexOf 1 = .ok (.istore_n 2, 1) := by decide +kernel
theorem dX5_indexOf_2 : decode cX5_indexOf 2 = .ok (.aload_n 0, 1) := by decide +kernel
theorem dX5_indexOf_3 : decode cX5_indexOf 3 = .ok (.aload_n 0, 1) := by decide +kernel
theorem dX5_indexOf_4 : decode cX5_indexOf 4 = .ok (.iload_n 1, 1) := by decide +kernel
theorem dX5_indexOf_5 : decode cX5_indexOf 5 = .ok (.iconst 4, 1) := by decide +kernel
theorem dX5_indexOf_6 : decode cX5_indexOf 6 = .ok (.invokevirtual 40, 3) := by decide +kernel
theorem dX5_indexOf_9 : decode cX5_indexOf 9 = .ok (.iload_n 2, 1) := by decide +kernel
theorem dX5_indexOf_10 : decode cX5_indexOf 10 = .ok (.invokevirtual 65, 3) := by decide +kernel
theorem dX5_indexOf_13 : decode cX5_indexOf 13 = .ok (.iload_n 1, 1) := by decide +kernel
theorem dX5_indexOf_14 : decode cX5_indexOf 14 = .ok (.if_icmp .eq 9, 3) := by decide +kernel
theorem dX5_indexOf_17 : decode cX5_indexOf 17 = .ok (.iinc 2 1, 3) := by decide +kernel
theorem dX5_indexOf_20 : decode cX5_indexOf 20 = .ok (.goto (-18), 3) := by decide +kernel
theorem dX5_indexOf_23 : decode cX5_indexOf 23 = .ok (.iload_n 2, 1) := by decide +kernel
theorem dX5_indexOf_24 : decode cX5_indexOf 24 = .ok (.ireturn, 1) := by decide +kernel
theorem dX5_dequeue_0 : decode cX5_dequeue 0 = .ok (.aload_n 0, 1) := by decide +kernel
theorem dX5_dequeue_1 : decode cX5_dequeue 1 = .ok (.iload_n 1, 1) := by decide +kernel
theorem dX5_dequeue_2 : decode cX5_dequeue 2 = .ok (.iconst 4, 1) := by decide +kernel
theorem dX5_dequeue_3 : decode cX5_dequeue 3 = .ok (.invokevirtual 40, 3) := by decide +kernel
theorem dX5_dequeue_6 : decode cX5_dequeue 6 = .ok (.istore_n 2, 1) := by decide +kernel
theorem dX5_dequeue_7 : decode cX5_dequeue 7 = .ok (.aload_n 0, 1) := by decide +kernel
theorem dX5_dequeue_8 : decode cX5_dequeue 8 = .ok (.iload_n 1, 1) := by decide +kernel
theorem dX5_dequeue_9 : decode cX5_dequeue 9 = .ok (.invokevirtual 68, 3) := by decide +kernel
theorem dX5_dequeue_12 : decode cX5_dequeue 12 = .ok (.istore_n 3, 1) := by decide +kernel
theorem dX5_dequeue_13 : decode cX5_dequeue 13 = .ok (.aload_n 0, 1) := by decide +kernel
theorem dX5_dequeue_14 : decode cX5_dequeue 14 = .ok (.getfield 7, 3) := by decide +kernel
theorem dX5_dequeue_17 : decode cX5_dequeue 17 = .ok (.sipush 128, 3) := by decide +kernel
theorem dX5_dequeue_20 : decode cX5_dequeue 20 = .ok (.bipush 9, 2) := by decide +kernel
theorem dX5_dequeue_22 : decode cX5_dequeue 22 = .ok (.iload_n 2, 1) := by decide +kernel
theorem dX5_dequeue_23 : decode cX5_dequeue 23 = .ok (.imul, 1) := by decide +kernel
theorem dX5_dequeue_24 : decode cX5_dequeue 24 = .ok (.iadd, 1) := by decide +kernel
theorem dX5_dequeue_25 : decode cX5_dequeue 25 = .ok (.dup2, 1) := by decide +kernel
theorem dX5_dequeue_26 : decode cX5_dequeue 26 = .ok (.iaload, 1) := by decide +kernel
theorem dX5_dequeue_27 : decode cX5_dequeue 27 = .ok (.iconst 1, 1) := by decide +kernel
theorem dX5_dequeue_28 : decode cX5_dequeue 28 = .ok (.isub, 1) := by decide +kernel
theorem dX5_dequeue_29 : decode cX5_dequeue 29 = .ok (.iastore, 1) := by decide +kernel
theorem dX5_dequeue_30 : decode cX5_dequeue 30 = .ok (.iload_n 3, 1) := by decide +kernel
theorem dX5_dequeue_31 : decode cX5_dequeue 31 = .ok (.istore 4, 2) := by decide +kernel
theorem dX5_dequeue_33 : decode cX5_dequeue 33 = .ok (.iload 4, 2) := by decide +kernel
theorem dX5_dequeue_35 : decode cX5_dequeue 35 = .ok (.aload_n 0, 1) := by decide +kernel
theorem dX5_dequeue_36 : decode cX5_dequeue 36 = .ok (.iload_n 2, 1) := by decide +kernel
theorem dX5_dequeue_37 : decode cX5_dequeue 37 = .ok (.invokevirtual 61, 3) := by decide +kernel
theorem dX5_dequeue_40 : decode cX5_dequeue 40 = .ok (.if_icmp .ge 45, 3) := by decide +kernel
theorem dX5_dequeue_43 : decode cX5_dequeue 43 = .ok (.aload_n 0, 1) := by decide +kernel
theorem dX5_dequeue_44 : decode cX5_dequeue 44 = .ok (.getfield 7, 3) := by decide +kernel
theorem dX5_dequeue_47 : decode cX5_dequeue 47 = .ok (.sipush 128, 3) := by decide +kernel
theorem dX5_dequeue_50 : decode cX5_dequeue 50 = .ok (.bipush 9, 2) := by decide +kernel
theorem dX5_dequeue_52 : decode cX5_dequeue 52 = .ok (.iload_n 2, 1) := by decide +kernel
theorem dX5_dequeue_53 : decode cX5_dequeue 53 = .ok (.imul, 1) := by decide +kernel
theorem dX5_dequeue_54 : decode cX5_dequeue 54 = .ok (.iadd, 1) := by decide +kernel
theorem dX5_dequeue_55 : decode cX5_dequeue 55 = .ok (.iconst 1, 1) := by decide +kernel
theorem dX5_dequeue_56 : decode cX5_dequeue 56 = .ok (.iadd, 1) := by decide +kernel
theorem dX5_dequeue_57 : decode cX5_dequeue 57 = .ok (.iload 4, 2) := by decide +kernel
theorem dX5_dequeue_59 : decode cX5_dequeue 59 = .ok (.iadd, 1) := by decide +kernel
theorem dX5_dequeue_60 : decode cX5_dequeue 60 = .ok (.aload_n 0, 1) := by decide +kernel
theorem dX5_dequeue_61 : decode cX5_dequeue 61 = .ok (.getfield 7, 3) := by decide +kernel
theorem dX5_dequeue_64 : decode cX5_dequeue 64 = .ok (.sipush 128, 3) := by decide +kernel
theorem dX5_dequeue_67 : decode cX5_dequeue 67 = .ok (.bipush 9, 2) := by decide +kernel
theorem dX5_dequeue_69 : decode cX5_dequeue 69 = .ok (.iload_n 2, 1) := by decide +kernel
theorem dX5_dequeue_70 : decode cX5_dequeue 70 = .ok (.imul, 1) := by decide +kernel
theorem dX5_dequeue_71 : decode cX5_dequeue 71 = .ok (.iadd, 1) := by decide +kernel
theorem dX5_dequeue_72 : decode cX5_dequeue 72 = .ok (.iconst 2, 1) := by decide +kernel
theorem dX5_dequeue_73 : decode cX5_dequeue 73 = .ok (.iadd, 1) := by decide +kernel
theorem dX5_dequeue_74 : decode cX5_dequeue 74 = .ok (.iload 4, 2) := by decide +kernel
theorem dX5_dequeue_76 : decode cX5_dequeue 76 = .ok (.iadd, 1) := by decide +kernel
theorem dX5_dequeue_77 : decode cX5_dequeue 77 = .ok (.iaload, 1) := by decide +kernel
theorem dX5_dequeue_78 : decode cX5_dequeue 78 = .ok (.iastore, 1) := by decide +kernel
theorem dX5_dequeue_79 : decode cX5_dequeue 79 = .ok (.iinc 4 1, 3) := by decide +kernel
theorem dX5_dequeue_82 : decode cX5_dequeue 82 = .ok (.goto (-49), 3) := by decide +kernel
theorem dX5_dequeue_85 : decode cX5_dequeue 85 = .ok (.aload_n 0, 1) := by decide +kernel
theorem dX5_dequeue_86 : decode cX5_dequeue 86 = .ok (.iload_n 1, 1) := by decide +kernel
theorem dX5_dequeue_87 : decode cX5_dequeue 87 = .ok (.iconst 0, 1) := by decide +kernel
theorem dX5_dequeue_88 : decode cX5_dequeue 88 = .ok (.iconst 1, 1) := by decide +kernel
theorem dX5_dequeue_89 : decode cX5_dequeue 89 = .ok (.invokevirtual 44, 3) := by decide +kernel
theorem dX5_dequeue_92 : decode cX5_dequeue 92 = .ok (.aload_n 0, 1) := by decide +kernel
theorem dX5_dequeue_93 : decode cX5_dequeue 93 = .ok (.iload_n 1, 1) := by decide +kernel
theorem dX5_dequeue_94 : decode cX5_dequeue 94 = .ok (.iconst 4, 1) := by decide +kernel
theorem dX5_dequeue_95 : decode cX5_dequeue 95 = .ok (.iconst (-1), 1) := by decide +kernel
theorem dX5_dequeue_96 : decode cX5_dequeue 96 = .ok (.invokevirtual 44, 3) := by decide +kernel
theorem dX5_dequeue_99 : decode cX5_dequeue 99 = .ok (.aload_n 0, 1) := by decide +kernel
theorem dX5_dequeue_100 : decode cX5_dequeue 100 = .ok (.iload_n 1, 1) := by decide +kernel
theorem dX5_dequeue_101 : decode cX5_dequeue 101 = .ok (.iconst 5, 1) := by decide +kernel
theorem dX5_dequeue_102 : decode cX5_dequeue 102 = .ok (.iconst 0, 1) := by decide +kernel
theorem dX5_dequeue_103 : decode cX5_dequeue 103 = .ok (.invokevirtual 44, 3) := by decide +kernel
theorem dX5_dequeue_106 : decode cX5_dequeue 106 = .ok (.return_, 1) := by decide +kernel
theorem dX5_release_0 : decode cX5_release 0 = .ok (.iconst 0, 1) := by decide +kernel
theorem dX5_release_1 : decode cX5_release 1 = .ok (.istore_n 2, 1) := by decide +kernel
theorem dX5_release_2 : decode cX5_release 2 = .ok (.iload_n 2, 1) := by decide +kernel
theorem dX5_release_3 : decode cX5_release 3 = .ok (.bipush 10, 2) := by decide +kernel
theorem dX5_release_5 : decode cX5_release 5 = .ok (.if_icmp .ge 16, 3) := by decide +kernel
theorem dX5_release_8 : decode cX5_release 8 = .ok (.aload_n 0, 1) := by decide +kernel
theorem dX5_release_9 : decode cX5_release 9 = .ok (.iload_n 1, 1) := by decide +kernel
theorem dX5_release_10 : decode cX5_release 10 = .ok (.iload_n 2, 1) := by decide +kernel
theorem dX5_release_11 : decode cX5_release 11 = .ok (.iconst 0, 1) := by decide +kernel
theorem dX5_release_12 : decode cX5_release 12 = .ok (.invokevirtual 58, 3) := by decide +kernel
theorem dX5_release_15 : decode cX5_release 15 = .ok (.iinc 2 1, 3) := by decide +kernel
theorem dX5_release_18 : decode cX5_release 18 = .ok (.goto (-16), 3) := by decide +kernel
theorem dX5_release_21 : decode cX5_release 21 = .ok (.return_, 1) := by decide +kernel
theorem dX5_serve_0 : decode cX5_serve 0 = .ok (.iconst 0, 1) := by decide +kernel
theorem dX5_serve_1 : decode cX5_serve 1 = .ok (.istore_n 1, 1) := by decide +kernel
theorem dX5_serve_2 : decode cX5_serve 2 = .ok (.iconst 0, 1) := by decide +kernel
theorem dX5_serve_3 : decode cX5_serve 3 = .ok (.istore_n 2, 1) := by decide +kernel
theorem dX5_serve_4 : decode cX5_serve 4 = .ok (.iload_n 2, 1) := by decide +kernel
theorem dX5_serve_5 : decode cX5_serve 5 = .ok (.bipush 10, 2) := by decide +kernel
theorem dX5_serve_7 : decode cX5_serve 7 = .ok (.if_icmp .ge 93, 3) := by decide +kernel
theorem dX5_serve_10 : decode cX5_serve 10 = .ok (.aload_n 0, 1) := by decide +kernel
theorem dX5_serve_11 : decode cX5_serve 11 = .ok (.iload_n 2, 1) := by decide +kernel
theorem dX5_serve_12 : decode cX5_serve 12 = .ok (.invokevirtual 61, 3) := by decide +kernel
theorem dX5_serve_15 : decode cX5_serve 15 = .ok (.ifCond .le 7, 3) := by decide +kernel
theorem dX5_serve_18 : decode cX5_serve 18 = .ok (.iconst 1, 1) := by decide +kernel
theorem dX5_serve_19 : decode cX5_serve 19 = .ok (.goto 4, 3) := by decide +kernel
theorem dX5_serve_22 : decode cX5_serve 22 = .ok (.iconst 0, 1) := by decide +kernel
theorem dX5_serve_23 : decode cX5_serve 23 = .ok (.istore_n 3, 1) := by decide +kernel
theorem dX5_serve_24 : decode cX5_serve 24 = .ok (.iload_n 3, 1) := by decide +kernel
theorem dX5_serve_25 : decode cX5_serve 25 = .ok (.ifCond .eq 69, 3) := by decide +kernel
theorem dX5_serve_28 : decode cX5_serve 28 = .ok (.aload_n 0, 1) := by decide +kernel
theorem dX5_serve_29 : decode cX5_serve 29 = .ok (.iload_n 2, 1) := by decide +kernel
theorem dX5_serve_30 : decode cX5_serve 30 = .ok (.iconst 0, 1) := by decide +kernel
theorem dX5_serve_31 : decode cX5_serve 31 = .ok (.invokevirtual 65, 3) := by decide +kernel
theorem dX5_serve_34 : decode cX5_serve 34 = .ok (.istore 4, 2) := by decide +kernel
theorem dX5_serve_36 : decode cX5_serve 36 = .ok (.aload_n 0, 1) := by decide +kernel
theorem dX5_serve_37 : decode cX5_serve 37 = .ok (.iload 4, 2) := by decide +kernel
theorem dX5_serve_39 : decode cX5_serve 39 = .ok (.iconst 5, 1) := by decide +kernel
theorem dX5_serve_40 : decode cX5_serve 40 = .ok (.invokevirtual 40, 3) := by decide +kernel
theorem dX5_serve_43 : decode cX5_serve 43 = .ok (.istore 5, 2) := by decide +kernel
theorem dX5_serve_45 : decode cX5_serve 45 = .ok (.aload_n 0, 1) := by decide +kernel
theorem dX5_serve_46 : decode cX5_serve 46 = .ok (.iload 4, 2) := by decide +kernel
theorem dX5_serve_48 : decode cX5_serve 48 = .ok (.iload_n 2, 1) := by decide +kernel
theorem dX5_serve_49 : decode cX5_serve 49 = .ok (.iload 5, 2) := by decide +kernel
theorem dX5_serve_51 : decode cX5_serve 51 = .ok (.invokevirtual 71, 3) := by decide +kernel
theorem dX5_serve_54 : decode cX5_serve 54 = .ok (.istore_n 3, 1) := by decide +kernel
theorem dX5_serve_55 : decode cX5_serve 55 = .ok (.iload_n 3, 1) := by decide +kernel
theorem dX5_serve_56 : decode cX5_serve 56 = .ok (.ifCond .eq 35, 3) := by decide +kernel
theorem dX5_serve_59 : decode cX5_serve 59 = .ok (.aload_n 0, 1) := by decide +kernel
theorem dX5_serve_60 : decode cX5_serve 60 = .ok (.iload 4, 2) := by decide +kernel
theorem dX5_serve_62 : decode cX5_serve 62 = .ok (.invokevirtual 74, 3) := by decide +kernel
theorem dX5_serve_65 : decode cX5_serve 65 = .ok (.aload_n 0, 1) := by decide +kernel
theorem dX5_serve_66 : decode cX5_serve 66 = .ok (.iload 4, 2) := by decide +kernel
theorem dX5_serve_68 : decode cX5_serve 68 = .ok (.iload_n 2, 1) := by decide +kernel
theorem dX5_serve_69 : decode cX5_serve 69 = .ok (.iload 5, 2) := by decide +kernel
theorem dX5_serve_71 : decode cX5_serve 71 = .ok (.invokevirtual 77, 3) := by decide +kernel
theorem dX5_serve_74 : decode cX5_serve 74 = .ok (.iinc 1 1, 3) := by decide +kernel
theorem dX5_serve_77 : decode cX5_serve 77 = .ok (.aload_n 0, 1) := by decide +kernel
theorem dX5_serve_78 : decode cX5_serve 78 = .ok (.iload_n 2, 1) := by decide +kernel
theorem dX5_serve_79 : decode cX5_serve 79 = .ok (.invokevirtual 61, 3) := by decide +kernel
theorem dX5_serve_82 : decode cX5_serve 82 = .ok (.ifCond .le 7, 3) := by decide +kernel
theorem dX5_serve_85 : decode cX5_serve 85 = .ok (.iconst 1, 1) := by decide +kernel
theorem dX5_serve_86 : decode cX5_serve 86 = .ok (.goto 4, 3) := by decide +kernel
theorem dX5_serve_89 : decode cX5_serve 89 = .ok (.iconst 0, 1) := by decide +kernel
theorem dX5_serve_90 : decode cX5_serve 90 = .ok (.istore_n 3, 1) := by decide +kernel
theorem dX5_serve_91 : decode cX5_serve 91 = .ok (.goto (-67), 3) := by decide +kernel
theorem dX5_serve_94 : decode cX5_serve 94 = .ok (.iinc 2 1, 3) := by decide +kernel
theorem dX5_serve_97 : decode cX5_serve 97 = .ok (.goto (-93), 3) := by decide +kernel
theorem dX5_serve_100 : decode cX5_serve 100 = .ok (.iload_n 1, 1) := by decide +kernel
theorem dX5_serve_101 : decode cX5_serve 101 = .ok (.ireturn, 1) := by decide +kernel
theorem dX5_waits_0 : decode cX5_waits 0 = .ok (.aload_n 0, 1) := by decide +kernel
theorem dX5_waits_1 : decode cX5_waits 1 = .ok (.iload_n 1, 1) := by decide +kernel
theorem dX5_waits_2 : decode cX5_waits 2 = .ok (.iconst 0, 1) := by decide +kernel
theorem dX5_waits_3 : decode cX5_waits 3 = .ok (.invokevirtual 40, 3) := by decide +kernel
theorem dX5_waits_6 : decode cX5_waits 6 = .ok (.iconst 2, 1) := by decide +kernel
theorem dX5_waits_7 : decode cX5_waits 7 = .ok (.if_icmp .ne 8, 3) := by decide +kernel
theorem dX5_waits_10 : decode cX5_waits 10 = .ok (.iload_n 1, 1) := by decide +kernel
theorem dX5_waits_11 : decode cX5_waits 11 = .ok (.iload_n 2, 1) := by decide +kernel
theorem dX5_waits_12 : decode cX5_waits 12 = .ok (.if_icmp .ne 5, 3) := by decide +kernel
theorem dX5_waits_15 : decode cX5_waits 15 = .ok (.iconst 0, 1) := by decide +kernel
theorem dX5_waits_16 : decode cX5_waits 16 = .ok (.ireturn, 1) := by decide +kernel
theorem dX5_waits_17 : decode cX5_waits 17 = .ok (.aload_n 0, 1) := by decide +kernel
theorem dX5_waits_18 : decode cX5_waits 18 = .ok (.iload_n 1, 1) := by decide +kernel
theorem dX5_waits_19 : decode cX5_waits 19 = .ok (.iconst 4, 1) := by decide +kernel
theorem dX5_waits_20 : decode cX5_waits 20 = .ok (.invokevirtual 40, 3) := by decide +kernel
theorem dX5_waits_23 : decode cX5_waits 23 = .ok (.istore_n 3, 1) := by decide +kernel
theorem dX5_waits_24 : decode cX5_waits 24 = .ok (.aload_n 0, 1) := by decide +kernel
theorem dX5_waits_25 : decode cX5_waits 25 = .ok (.iload_n 1, 1) := by decide +kernel
theorem dX5_waits_26 : decode cX5_waits 26 = .ok (.iconst 5, 1) := by decide +kernel
theorem dX5_waits_27 : decode cX5_waits 27 = .ok (.invokevirtual 40, 3) := by decide +kernel
theorem dX5_waits_30 : decode cX5_waits 30 = .ok (.aload_n 0, 1) := by decide +kernel
theorem dX5_waits_31 : decode cX5_waits 31 = .ok (.iload_n 2, 1) := by decide +kernel
theorem dX5_waits_32 : decode cX5_waits 32 = .ok (.iload_n 3, 1) := by decide +kernel
theorem dX5_waits_33 : decode cX5_waits 33 = .ok (.invokevirtual 51, 3) := by decide +kernel
theorem dX5_waits_36 : decode cX5_waits 36 = .ok (.invokestatic 54, 3) := by decide +kernel
theorem dX5_waits_39 : decode cX5_waits 39 = .ok (.ifCond .ne 5, 3) := by decide +kernel
theorem dX5_waits_42 : decode cX5_waits 42 = .ok (.iconst 1, 1) := by decide +kernel
theorem dX5_waits_43 : decode cX5_waits 43 = .ok (.ireturn, 1) := by decide +kernel
theorem dX5_waits_44 : decode cX5_waits 44 = .ok (.aload_n 0, 1) := by decide +kernel
theorem dX5_waits_45 : decode cX5_waits 45 = .ok (.iload_n 2, 1) := by decide +kernel
theorem dX5_waits_46 : decode cX5_waits 46 = .ok (.iconst 0, 1) := by decide +kernel
theorem dX5_waits_47 : decode cX5_waits 47 = .ok (.invokevirtual 40, 3) := by decide +kernel
theorem dX5_waits_50 : decode cX5_waits 50 = .ok (.iconst 2, 1) := by decide +kernel
theorem dX5_waits_51 : decode cX5_waits 51 = .ok (.if_icmp .ne 17, 3) := by decide +kernel
theorem dX5_waits_54 : decode cX5_waits 54 = .ok (.aload_n 0, 1) := by decide +kernel
theorem dX5_waits_55 : decode cX5_waits 55 = .ok (.iload_n 2, 1) := by decide +kernel
theorem dX5_waits_56 : decode cX5_waits 56 = .ok (.iconst 4, 1) := by decide +kernel
theorem dX5_waits_57 : decode cX5_waits 57 = .ok (.invokevirtual 40, 3) := by decide +kernel
theorem dX5_waits_60 : decode cX5_waits 60 = .ok (.iload_n 3, 1) := by decide +kernel
theorem dX5_waits_61 : decode cX5_waits 61 = .ok (.if_icmp .ne 7, 3) := by decide +kernel
theorem dX5_waits_64 : decode cX5_waits 64 = .ok (.iconst 1, 1) := by decide +kernel
theorem dX5_waits_65 : decode cX5_waits 65 = .ok (.goto 4, 3) := by decide +kernel
theorem dX5_waits_68 : decode cX5_waits 68 = .ok (.iconst 0, 1) := by decide +kernel
theorem dX5_waits_69 : decode cX5_waits 69 = .ok (.istore 4, 2) := by decide +kernel
theorem dX5_waits_71 : decode cX5_waits 71 = .ok (.iload 4, 2) := by decide +kernel
theorem dX5_waits_73 : decode cX5_waits 73 = .ok (.ifCond .eq 40, 3) := by decide +kernel
theorem dX5_waits_76 : decode cX5_waits 76 = .ok (.aload_n 0, 1) := by decide +kernel
theorem dX5_waits_77 : decode cX5_waits 77 = .ok (.iload_n 2, 1) := by decide +kernel
theorem dX5_waits_78 : decode cX5_waits 78 = .ok (.invokevirtual 68, 3) := by decide +kernel
theorem dX5_waits_81 : decode cX5_waits 81 = .ok (.aload_n 0, 1) := by decide +kernel
theorem dX5_waits_82 : decode cX5_waits 82 = .ok (.iload_n 1, 1) := by decide +kernel
theorem dX5_waits_83 : decode cX5_waits 83 = .ok (.invokevirtual 68, 3) := by decide +kernel
theorem dX5_waits_86 : decode cX5_waits 86 = .ok (.if_icmp .ge 27, 3) := by decide +kernel
theorem dX5_waits_89 : decode cX5_waits 89 = .ok (.aload_n 0, 1) := by decide +kernel
theorem dX5_waits_90 : decode cX5_waits 90 = .ok (.iload_n 1, 1) := by decide +kernel
theorem dX5_waits_91 : decode cX5_waits 91 = .ok (.iconst 5, 1) := by decide +kernel
theorem dX5_waits_92 : decode cX5_waits 92 = .ok (.invokevirtual 40, 3) := by decide +kernel
theorem dX5_waits_95 : decode cX5_waits 95 = .ok (.iconst 2, 1) := by decide +kernel
theorem dX5_waits_96 : decode cX5_waits 96 = .ok (.if_icmp .eq 13, 3) := by decide +kernel
theorem dX5_waits_99 : decode cX5_waits 99 = .ok (.aload_n 0, 1) := by decide +kernel
theorem dX5_waits_100 : decode cX5_waits 100 = .ok (.iload_n 2, 1) := by decide +kernel
theorem dX5_waits_101 : decode cX5_waits 101 = .ok (.iconst 5, 1) := by decide +kernel
theorem dX5_waits_102 : decode cX5_waits 102 = .ok (.invokevirtual 40, 3) := by decide +kernel
theorem dX5_waits_105 : decode cX5_waits 105 = .ok (.iconst 2, 1) := by decide +kernel
theorem dX5_waits_106 : decode cX5_waits 106 = .ok (.if_icmp .ne 7, 3) := by decide +kernel
theorem dX5_waits_109 : decode cX5_waits 109 = .ok (.iconst 1, 1) := by decide +kernel
theorem dX5_waits_110 : decode cX5_waits 110 = .ok (.goto 4, 3) := by decide +kernel
theorem dX5_waits_113 : decode cX5_waits 113 = .ok (.iconst 0, 1) := by decide +kernel
theorem dX5_waits_114 : decode cX5_waits 114 = .ok (.ireturn, 1) := by decide +kernel
theorem dX5_findDistances_0 : decode cX5_findDistances 0 = .ok (.iconst 0, 1) := by decide +kernel
theorem dX5_findDistances_1 : decode cX5_findDistances 1 = .ok (.istore_n 2, 1) := by decide +kernel
theorem dX5_findDistances_2 : decode cX5_findDistances 2 = .ok (.iload_n 2, 1) := by decide +kernel
theorem dX5_findDistances_3 : decode cX5_findDistances 3 = .ok (.bipush 8, 2) := by decide +kernel
theorem dX5_findDistances_5 : decode cX5_findDistances 5 = .ok (.if_icmp .ge 25, 3) := by decide +kernel
theorem dX5_findDistances_8 : decode cX5_findDistances 8 = .ok (.aload_n 0, 1) := by decide +kernel
theorem dX5_findDistances_9 : decode cX5_findDistances 9 = .ok (.getfield 22, 3) := by decide +kernel
theorem dX5_findDistances_12 : decode cX5_findDistances 12 = .ok (.iload_n 2, 1) := by decide +kernel
theorem dX5_findDistances_13 : decode cX5_findDistances 13 = .ok (.iload_n 2, 1) := by decide +kernel
theorem dX5_findDistances_14 : decode cX5_findDistances 14 = .ok (.iload_n 1, 1) := by decide +kernel
theorem dX5_findDistances_15 : decode cX5_findDistances 15 = .ok (.if_icmp .ne 7, 3) := by decide +kernel
theorem dX5_findDistances_18 : decode cX5_findDistances 18 = .ok (.iconst 0, 1) := by decide +kernel
theorem dX5_findDistances_19 : decode cX5_findDistances 19 = .ok (.goto 4, 3) := by decide +kernel
theorem dX5_findDistances_22 : decode cX5_findDistances 22 = .ok (.iconst (-1), 1) := by decide +kernel
theorem dX5_findDistances_23 : decode cX5_findDistances 23 = .ok (.iastore, 1) := by decide +kernel
theorem dX5_findDistances_24 : decode cX5_findDistances 24 = .ok (.iinc 2 1, 3) := by decide +kernel
theorem dX5_findDistances_27 : decode cX5_findDistances 27 = .ok (.goto (-25), 3) := by decide +kernel
theorem dX5_findDistances_30 : decode cX5_findDistances 30 = .ok (.iconst 0, 1) := by decide +kernel
theorem dX5_findDistances_31 : decode cX5_findDistances 31 = .ok (.istore_n 2, 1) := by decide +kernel
theorem dX5_findDistances_32 : decode cX5_findDistances 32 = .ok (.iload_n 2, 1) := by decide +kernel
theorem dX5_findDistances_33 : decode cX5_findDistances 33 = .ok (.bipush 8, 2) := by decide +kernel
theorem dX5_findDistances_35 : decode cX5_findDistances 35 = .ok (.if_icmp .ge 87, 3) := by decide +kernel
theorem dX5_findDistances_38 : decode cX5_findDistances 38 = .ok (.iconst 0, 1) := by decide +kernel
theorem dX5_findDistances_39 : decode cX5_findDistances 39 = .ok (.istore_n 3, 1) := by decide +kernel
theorem dX5_findDistances_40 : decode cX5_findDistances 40 = .ok (.iload_n 3, 1) := by decide +kernel
theorem dX5_findDistances_41 : decode cX5_findDistances 41 = .ok (.bipush 8, 2) := by decide +kernel
theorem dX5_findDistances_43 : decode cX5_findDistances 43 = .ok (.if_icmp .ge 73, 3) := by decide +kernel
theorem dX5_findDistances_46 : decode cX5_findDistances 46 = .ok (.iconst 0, 1) := by decide +kernel
theorem dX5_findDistances_47 : decode cX5_findDistances 47 = .ok (.istore 4, 2) := by decide +kernel
theorem dX5_findDistances_49 : decode cX5_findDistances 49 = .ok (.iload 4, 2) := by decide +kernel
theorem dX5_findDistances_51 : decode cX5_findDistances 51 = .ok (.bipush 8, 2) := by decide +kernel
theorem dX5_findDistances_53 : decode cX5_findDistances 53 = .ok (.if_icmp .ge 57, 3) := by decide +kernel
theorem dX5_findDistances_56 : decode cX5_findDistances 56 = .ok (.aload_n 0, 1) := by decide +kernel
theorem dX5_findDistances_57 : decode cX5_findDistances 57 = .ok (.getfield 22, 3) := by decide +kernel
theorem dX5_findDistances_60 : decode cX5_findDistances 60 = .ok (.iload_n 3, 1) := by decide +kernel
theorem dX5_findDistances_61 : decode cX5_findDistances 61 = .ok (.iaload, 1) := by decide +kernel
theorem dX5_findDistances_62 : decode cX5_findDistances 62 = .ok (.ifCond .ge 48, 3) := by decide +kernel
theorem dX5_findDistances_65 : decode cX5_findDistances 65 = .ok (.aload_n 0, 1) := by decide +kernel
theorem dX5_findDistances_66 : decode cX5_findDistances 66 = .ok (.getfield 22, 3) := by decide +kernel
theorem dX5_findDistances_69 : decode cX5_findDistances 69 = .ok (.iload_n 3, 1) := by decide +kernel
theorem dX5_findDistances_70 : decode cX5_findDistances 70 = .ok (.aload_n 0, 1) := by decide +kernel
theorem dX5_findDistances_71 : decode cX5_findDistances 71 = .ok (.getfield 22, 3) := by decide +kernel
theorem dX5_findDistances_74 : decode cX5_findDistances 74 = .ok (.iload 4, 2) := by decide +kernel
theorem dX5_findDistances_76 : decode cX5_findDistances 76 = .ok (.iaload, 1) := by decide +kernel
theorem dX5_findDistances_77 : decode cX5_findDistances 77 = .ok (.iload_n 2, 1) := by decide +kernel
theorem dX5_findDistances_78 : decode cX5_findDistances 78 = .ok (.if_icmp .ne 19, 3) := by decide +kernel
theorem dX5_findDistances_81 : decode cX5_findDistances 81 = .ok (.aload_n 0, 1) := by decide +kernel
theorem dX5_findDistances_82 : decode cX5_findDistances 82 = .ok (.iload_n 3, 1) := by decide +kernel
theorem dX5_findDistances_83 : decode cX5_findDistances 83 = .ok (.iload 4, 2) := by decide +kernel
theorem dX5_findDistances_85 : decode cX5_findDistances 85 = .ok (.invokevirtual 80, 3) := by decide +kernel
theorem dX5_findDistances_88 : decode cX5_findDistances 88 = .ok (.ifCond .eq 9, 3) := by decide +kernel
theorem dX5_findDistances_91 : decode cX5_findDistances 91 = .ok (.iload_n 2, 1) := by decide +kernel
theorem dX5_findDistances_92 : decode cX5_findDistances 92 = .ok (.iconst 1, 1) := by decide +kernel
theorem dX5_findDistances_93 : decode cX5_findDistances 93 = .ok (.iadd, 1) := by decide +kernel
theorem dX5_findDistances_94 : decode cX5_findDistances 94 = .ok (.goto 9, 3) := by decide +kernel
theorem dX5_findDistances_97 : decode cX5_findDistances 97 = .ok (.aload_n 0, 1) := by decide +kernel
theorem dX5_findDistances_98 : decode cX5_findDistances 98 = .ok (.getfield 22, 3) := by decide +kernel
theorem dX5_findDistances_101 : decode cX5_findDistances 101 = .ok (.iload_n 3, 1) := by decide +kernel
theorem dX5_findDistances_102 : decode cX5_findDistances 102 = .ok (.iaload, 1) := by decide +kernel
theorem dX5_findDistances_103 : decode cX5_findDistances 103 = .ok (.iastore, 1) := by decide +kernel
theorem dX5_findDistances_104 : decode cX5_findDistances 104 = .ok (.iinc 4 1, 3) := by decide +kernel
theorem dX5_findDistances_107 : decode cX5_findDistances 107 = .ok (.goto (-58), 3) := by decide +kernel
theorem dX5_findDistances_110 : decode cX5_findDistances 110 = .ok (.iinc 3 1, 3) := by decide +kernel
theorem dX5_findDistances_113 : decode cX5_findDistances 113 = .ok (.goto (-73), 3) := by decide +kernel
theorem dX5_findDistances_116 : decode cX5_findDistances 116 = .ok (.iinc 2 1, 3) := by decide +kernel
theorem dX5_findDistances_119 : decode cX5_findDistances 119 = .ok (.goto (-87), 3) := by decide +kernel
theorem dX5_findDistances_122 : decode cX5_findDistances 122 = .ok (.return_, 1) := by decide +kernel
theorem dX5_findRing_0 : decode cX5_findRing 0 = .ok (.aload_n 0, 1) := by decide +kernel
theorem dX5_findRing_1 : decode cX5_findRing 1 = .ok (.iload_n 1, 1) := by decide +kernel
theorem dX5_findRing_2 : decode cX5_findRing 2 = .ok (.invokevirtual 83, 3) := by decide +kernel
theorem dX5_findRing_5 : decode cX5_findRing 5 = .ok (.iconst (-1), 1) := by decide +kernel
theorem dX5_findRing_6 : decode cX5_findRing 6 = .ok (.istore_n 2, 1) := by decide +kernel
theorem dX5_findRing_7 : decode cX5_findRing 7 = .ok (.bipush 7, 2) := by decide +kernel
theorem dX5_findRing_9 : decode cX5_findRing 9 = .ok (.istore_n 3, 1) := by decide +kernel
theorem dX5_findRing_10 : decode cX5_findRing 10 = .ok (.iload_n 3, 1) := by decide +kernel
theorem dX5_findRing_11 : decode cX5_findRing 11 = .ok (.ifCond .lt 64, 3) := by decide +kernel
theorem dX5_findRing_14 : decode cX5_findRing 14 = .ok (.aload_n 0, 1) := by decide +kernel
theorem dX5_findRing_15 : decode cX5_findRing 15 = .ok (.iload_n 1, 1) := by decide +kernel
theorem dX5_findRing_16 : decode cX5_findRing 16 = .ok (.iload_n 3, 1) := by decide +kernel
theorem dX5_findRing_17 : decode cX5_findRing 17 = .ok (.invokevirtual 80, 3) := by decide +kernel
theorem dX5_findRing_20 : decode cX5_findRing 20 = .ok (.ifCond .eq 16, 3) := by decide +kernel
theorem dX5_findRing_23 : decode cX5_findRing 23 = .ok (.aload_n 0, 1) := by decide +kernel
theorem dX5_findRing_24 : decode cX5_findRing 24 = .ok (.getfield 22, 3) := by decide +kernel
theorem dX5_findRing_27 : decode cX5_findRing 27 = .ok (.iload_n 3, 1) := by decide +kernel
theorem dX5_findRing_28 : decode cX5_findRing 28 = .ok (.iaload, 1) := by decide +kernel
theorem dX5_findRing_29 : decode cX5_findRing 29 = .ok (.ifCond .lt 7, 3) := by decide +kernel
theorem dX5_findRing_32 : decode cX5_findRing 32 = .ok (.iconst 1, 1) := by decide +kernel
theorem dX5_findRing_33 : decode cX5_findRing 33 = .ok (.goto 4, 3) := by decide +kernel
theorem dX5_findRing_36 : decode cX5_findRing 36 = .ok (.iconst 0, 1) := by decide +kernel
theorem dX5_findRing_37 : decode cX5_findRing 37 = .ok (.istore 4, 2) := by decide +kernel
theorem dX5_findRing_39 : decode cX5_findRing 39 = .ok (.iload 4, 2) := by decide +kernel
theorem dX5_findRing_41 : decode cX5_findRing 41 = .ok (.ifCond .eq 26, 3) := by decide +kernel
theorem dX5_findRing_44 : decode cX5_findRing 44 = .ok (.iload_n 2, 1) := by decide +kernel
theorem dX5_findRing_45 : decode cX5_findRing 45 = .ok (.ifCond .lt 18, 3) := by decide +kernel
theorem dX5_findRing_48 : decode cX5_findRing 48 = .ok (.aload_n 0, 1) := by decide +kernel
theorem dX5_findRing_49 : decode cX5_findRing 49 = .ok (.getfield 22, 3) := by decide +kernel
theorem dX5_findRing_52 : decode cX5_findRing 52 = .ok (.iload_n 3, 1) := by decide +kernel
theorem dX5_findRing_53 : decode cX5_findRing 53 = .ok (.iaload, 1) := by decide +kernel
theorem dX5_findRing_54 : decode cX5_findRing 54 = .ok (.aload_n 0, 1) := by decide +kernel
theorem dX5_findRing_55 : decode cX5_findRing 55 = .ok (.getfield 22, 3) := by decide +kernel
theorem dX5_findRing_58 : decode cX5_findRing 58 = .ok (.iload_n 2, 1) := by decide +kernel
theorem dX5_findRing_59 : decode cX5_findRing 59 = .ok (.iaload, 1) := by decide +kernel
theorem dX5_findRing_60 : decode cX5_findRing 60 = .ok (.if_icmp .gt 7, 3) := by decide +kernel
theorem dX5_findRing_63 : decode cX5_findRing 63 = .ok (.iload_n 3, 1) := by decide +kernel
theorem dX5_findRing_64 : decode cX5_findRing 64 = .ok (.goto 4, 3) := by decide +kernel
theorem dX5_findRing_67 : decode cX5_findRing 67 = .ok (.iload_n 2, 1) := by decide +kernel
theorem dX5_findRing_68 : decode cX5_findRing 68 = .ok (.istore_n 2, 1) := by decide +kernel
theorem dX5_findRing_69 : decode cX5_findRing 69 = .ok (.iinc 3 (-1), 3) := by decide +kernel
theorem dX5_findRing_72 : decode cX5_findRing 72 = .ok (.goto (-62), 3) := by decide +kernel
theorem dX5_findRing_75 : decode cX5_findRing 75 = .ok (.aload_n 0, 1) := by decide +kernel
theorem dX5_findRing_76 : decode cX5_findRing 76 = .ok (.getfield 25, 3) := by decide +kernel
theorem dX5_findRing_79 : decode cX5_findRing 79 = .ok (.iconst 0, 1) := by decide +kernel
theorem dX5_findRing_80 : decode cX5_findRing 80 = .ok (.iload_n 1, 1) := by decide +kernel
theorem dX5_findRing_81 : decode cX5_findRing 81 = .ok (.iastore, 1) := by decide +kernel
theorem dX5_findRing_82 : decode cX5_findRing 82 = .ok (.aload_n 0, 1) := by decide +kernel
theorem dX5_findRing_83 : decode cX5_findRing 83 = .ok (.iconst 1, 1) := by decide +kernel
theorem dX5_findRing_84 : decode cX5_findRing 84 = .ok (.putfield 86, 3) := by decide +kernel
theorem dX5_findRing_87 : decode cX5_findRing 87 = .ok (.iload_n 2, 1) := by decide +kernel
theorem dX5_findRing_88 : decode cX5_findRing 88 = .ok (.ifCond .lt 83, 3) := by decide +kernel
theorem dX5_findRing_91 : decode cX5_findRing 91 = .ok (.iload_n 2, 1) := by decide +kernel
theorem dX5_findRing_92 : decode cX5_findRing 92 = .ok (.iload_n 1, 1) := by decide +kernel
theorem dX5_findRing_93 : decode cX5_findRing 93 = .ok (.if_icmp .eq 78, 3) := by decide +kernel
theorem dX5_findRing_96 : decode cX5_findRing 96 = .ok (.aload_n 0, 1) := by decide +kernel
theorem dX5_findRing_97 : decode cX5_findRing 97 = .ok (.getfield 25, 3) := by decide +kernel
theorem dX5_findRing_100 : decode cX5_findRing 100 = .ok (.aload_n 0, 1) := by decide +kernel
theorem dX5_findRing_101 : decode cX5_findRing 101 = .ok (.getfield 86, 3) := by decide +kernel
theorem dX5_findRing_104 : decode cX5_findRing 104 = .ok (.iload_n 2, 1) := by decide +kernel
theorem dX5_findRing_105 : decode cX5_findRing 105 = .ok (.iastore, 1) := by decide +kernel
theorem dX5_findRing_106 : decode cX5_findRing 106 = .ok (.aload_n 0, 1) := by decide +kernel
theorem dX5_findRing_107 : decode cX5_findRing 107 = .ok (.dup, 1) := by decide +kernel
theorem dX5_findRing_108 : decode cX5_findRing 108 = .ok (.getfield 86, 3) := by decide +kernel
theorem dX5_findRing_111 : decode cX5_findRing 111 = .ok (.iconst 1, 1) := by decide +kernel
theorem dX5_findRing_112 : decode cX5_findRing 112 = .ok (.iadd, 1) := by decide +kernel
theorem dX5_findRing_113 : decode cX5_findRing 113 = .ok (.putfield 86, 3) := by decide +kernel
theorem dX5_findRing_116 : decode cX5_findRing 116 = .ok (.iload_n 2, 1) := by decide +kernel
theorem dX5_findRing_117 : decode cX5_findRing 117 = .ok (.istore_n 3, 1) := by decide +kernel
theorem dX5_findRing_118 : decode cX5_findRing 118 = .ok (.bipush 7, 2) := by decide +kernel
theorem dX5_findRing_120 : decode cX5_findRing 120 = .ok (.istore 4, 2) := by decide +kernel
theorem dX5_findRing_122 : decode cX5_findRing 122 = .ok (.iload 4, 2) := by decide +kernel
theorem dX5_findRing_124 : decode cX5_findRing 124 = .ok (.ifCond .lt 44, 3) := by decide +kernel
theorem dX5_findRing_127 : decode cX5_findRing 127 = .ok (.aload_n 0, 1) := by decide +kernel
theorem dX5_findRing_128 : decode cX5_findRing 128 = .ok (.getfield 22, 3) := by decide +kernel
theorem dX5_findRing_131 : decode cX5_findRing 131 = .ok (.iload 4, 2) := by decide +kernel
theorem dX5_findRing_133 : decode cX5_findRing 133 = .ok (.iaload, 1) := by decide +kernel
theorem dX5_findRing_134 : decode cX5_findRing 134 = .ok (.aload_n 0, 1) := by decide +kernel
theorem dX5_findRing_135 : decode cX5_findRing 135 = .ok (.getfield 22, 3) := by decide +kernel
theorem dX5_findRing_138 : decode cX5_findRing 138 = .ok (.iload_n 3, 1) := by decide +kernel
theorem dX5_findRing_139 : decode cX5_findRing 139 = .ok (.iaload, 1) := by decide +kernel
theorem dX5_findRing_140 : decode cX5_findRing 140 = .ok (.iconst 1, 1) := by decide +kernel
theorem dX5_findRing_141 : decode cX5_findRing 141 = .ok (.isub, 1) := by decide +kernel
theorem dX5_findRing_142 : decode cX5_findRing 142 = .ok (.if_icmp .ne 18, 3) := by decide +kernel
theorem dX5_findRing_145 : decode cX5_findRing 145 = .ok (.aload_n 0, 1) := by decide +kernel
theorem dX5_findRing_146 : decode cX5_findRing 146 = .ok (.iload_n 3, 1) := by decide +kernel
theorem dX5_findRing_147 : decode cX5_findRing 147 = .ok (.iload 4, 2) := by decide +kernel
theorem dX5_findRing_149 : decode cX5_findRing 149 = .ok (.invokevirtual 80, 3) := by decide +kernel
theorem dX5_findRing_152 : decode cX5_findRing 152 = .ok (.ifCond .eq 8, 3) := by decide +kernel
theorem dX5_findRing_155 : decode cX5_findRing 155 = .ok (.iload 4, 2) := by decide +kernel
theorem dX5_findRing_157 : decode cX5_findRing 157 = .ok (.goto 4, 3) := by decide +kernel
theorem dX5_findRing_160 : decode cX5_findRing 160 = .ok (.iload_n 2, 1) := by decide +kernel
theorem dX5_findRing_161 : decode cX5_findRing 161 = .ok (.istore_n 2, 1) := by decide +kernel
theorem dX5_findRing_162 : decode cX5_findRing 162 = .ok (.iinc 4 (-1), 3) := by decide +kernel
theorem dX5_findRing_165 : decode cX5_findRing 165 = .ok (.goto (-43), 3) := by decide +kernel
theorem dX5_findRing_168 : decode cX5_findRing 168 = .ok (.goto (-81), 3) := by decide +kernel
theorem dX5_findRing_171 : decode cX5_findRing 171 = .ok (.iload_n 2, 1) := by decide +kernel
theorem dX5_findRing_172 : decode cX5_findRing 172 = .ok (.ifCond .lt 7, 3) := by decide +kernel
theorem dX5_findRing_175 : decode cX5_findRing 175 = .ok (.iconst 1, 1) := by decide +kernel
theorem dX5_findRing_176 : decode cX5_findRing 176 = .ok (.goto 4, 3) := by decide +kernel
theorem dX5_findRing_179 : decode cX5_findRing 179 = .ok (.iconst 0, 1) := by decide +kernel
theorem dX5_findRing_180 : decode cX5_findRing 180 = .ok (.ireturn, 1) := by decide +kernel
theorem dX5_victim_0 : decode cX5_victim 0 = .ok (.iconst 1, 1) := by decide +kernel
theorem dX5_victim_1 : decode cX5_victim 1 = .ok (.istore_n 1, 1) := by decide +kernel
theorem dX5_victim_2 : decode cX5_victim 2 = .ok (.iconst 0, 1) := by decide +kernel
theorem dX5_victim_3 : decode cX5_victim 3 = .ok (.istore_n 2, 1) := by decide +kernel
theorem dX5_victim_4 : decode cX5_victim 4 = .ok (.iload_n 2, 1) := by decide +kernel
theorem dX5_victim_5 : decode cX5_victim 5 = .ok (.aload_n 0, 1) := by decide +kernel
theorem dX5_victim_6 : decode cX5_victim 6 = .ok (.getfield 86, 3) := by decide +kernel
theorem dX5_victim_9 : decode cX5_victim 9 = .ok (.if_icmp .ge 34, 3) := by decide +kernel
theorem dX5_victim_12 : decode cX5_victim 12 = .ok (.iload_n 1, 1) := by decide +kernel
theorem dX5_victim_13 : decode cX5_victim 13 = .ok (.ifCond .eq 22, 3) := by decide +kernel
theorem dX5_victim_16 : decode cX5_victim 16 = .ok (.aload_n 0, 1) := by decide +kernel
theorem dX5_victim_17 : decode cX5_victim 17 = .ok (.aload_n 0, 1) := by decide +kernel
theorem dX5_victim_18 : decode cX5_victim 18 = .ok (.getfield 25, 3) := by decide +kernel
theorem dX5_victim_21 : decode cX5_victim 21 = .ok (.iload_n 2, 1) := by decide +kernel
theorem dX5_victim_22 : decode cX5_victim 22 = .ok (.iaload, 1) := by decide +kernel
theorem dX5_victim_23 : decode cX5_victim 23 = .ok (.iconst 2, 1) := by decide +kernel
theorem dX5_victim_24 : decode cX5_victim 24 = .ok (.invokevirtual 40, 3) := by decide +kernel
theorem dX5_victim_27 : decode cX5_victim 27 = .ok (.iconst 2, 1) := by decide +kernel
theorem dX5_victim_28 : decode cX5_victim 28 = .ok (.if_icmp .lt 7, 3) := by decide +kernel
theorem dX5_victim_31 : decode cX5_victim 31 = .ok (.iconst 1, 1) := by decide +kernel
theorem dX5_victim_32 : decode cX5_victim 32 = .ok (.goto 4, 3) := by decide +kernel
theorem dX5_victim_35 : decode cX5_victim 35 = .ok (.iconst 0, 1) := by decide +kernel
theorem dX5_victim_36 : decode cX5_victim 36 = .ok (.istore_n 1, 1) := by decide +kernel
theorem dX5_victim_37 : decode cX5_victim 37 = .ok (.iinc 2 1, 3) := by decide +kernel
theorem dX5_victim_40 : decode cX5_victim 40 = .ok (.goto (-36), 3) := by decide +kernel
theorem dX5_victim_43 : decode cX5_victim 43 = .ok (.iconst (-1), 1) := by decide +kernel
theorem dX5_victim_44 : decode cX5_victim 44 = .ok (.istore_n 2, 1) := by decide +kernel
theorem dX5_victim_45 : decode cX5_victim 45 = .ok (.iconst 0, 1) := by decide +kernel
theorem dX5_victim_46 : decode cX5_victim 46 = .ok (.istore_n 3, 1) := by decide +kernel
theorem dX5_victim_47 : decode cX5_victim 47 = .ok (.iload_n 3, 1) := by decide +kernel
theorem dX5_victim_48 : decode cX5_victim 48 = .ok (.aload_n 0, 1) := by decide +kernel
theorem dX5_victim_49 : decode cX5_victim 49 = .ok (.getfield 86, 3) := by decide +kernel
theorem dX5_victim_52 : decode cX5_victim 52 = .ok (.if_icmp .ge 103, 3) := by decide +kernel
theorem dX5_victim_55 : decode cX5_victim 55 = .ok (.aload_n 0, 1) := by decide +kernel
theorem dX5_victim_56 : decode cX5_victim 56 = .ok (.getfield 25, 3) := by decide +kernel
theorem dX5_victim_59 : decode cX5_victim 59 = .ok (.iload_n 3, 1) := by decide +kernel
theorem dX5_victim_60 : decode cX5_victim 60 = .ok (.iaload, 1) := by decide +kernel
theorem dX5_victim_61 : decode cX5_victim 61 = .ok (.istore 4, 2) := by decide +kernel
theorem dX5_victim_63 : decode cX5_victim 63 = .ok (.iload_n 1, 1) := by decide +kernel
theorem dX5_victim_64 : decode cX5_victim 64 = .ok (.ifCond .ne 14, 3) := by decide +kernel
theorem dX5_victim_67 : decode cX5_victim 67 = .ok (.aload_n 0, 1) := by decide +kernel
theorem dX5_victim_68 : decode cX5_victim 68 = .ok (.iload 4, 2) := by decide +kernel
theorem dX5_victim_70 : decode cX5_victim 70 = .ok (.iconst 2, 1) := by decide +kernel
theorem dX5_victim_71 : decode cX5_victim 71 = .ok (.invokevirtual 40, 3) := by decide +kernel
theorem dX5_victim_74 : decode cX5_victim 74 = .ok (.iconst 2, 1) := by decide +kernel
theorem dX5_victim_75 : decode cX5_victim 75 = .ok (.if_icmp .ge 74, 3) := by decide +kernel
theorem dX5_victim_78 : decode cX5_victim 78 = .ok (.iload_n 2, 1) := by decide +kernel
theorem dX5_victim_79 : decode cX5_victim 79 = .ok (.ifCond .lt 51, 3) := by decide +kernel
theorem dX5_victim_82 : decode cX5_victim 82 = .ok (.aload_n 0, 1) := by decide +kernel
theorem dX5_victim_83 : decode cX5_victim 83 = .ok (.iload 4, 2) := by decide +kernel
theorem dX5_victim_85 : decode cX5_victim 85 = .ok (.iconst 1, 1) := by decide +kernel
theorem dX5_victim_86 : decode cX5_victim 86 = .ok (.invokevirtual 40, 3) := by decide +kernel
theorem dX5_victim_89 : decode cX5_victim 89 = .ok (.aload_n 0, 1) := by decide +kernel
theorem dX5_victim_90 : decode cX5_victim 90 = .ok (.iload_n 2, 1) := by decide +kernel
theorem dX5_victim_91 : decode cX5_victim 91 = .ok (.iconst 1, 1) := by decide +kernel
theorem dX5_victim_92 : decode cX5_victim 92 = .ok (.invokevirtual 40, 3) := by decide +kernel
theorem dX5_victim_95 : decode cX5_victim 95 = .ok (.if_icmp .lt 35, 3) := by decide +kernel
theorem dX5_victim_98 : decode cX5_victim 98 = .ok (.aload_n 0, 1) := by decide +kernel
theorem dX5_victim_99 : decode cX5_victim 99 = .ok (.iload 4, 2) := by decide +kernel
theorem dX5_victim_101 : decode cX5_victim 101 = .ok (.iconst 1, 1) := by decide +kernel
theorem dX5_victim_102 : decode cX5_victim 102 = .ok (.invokevirtual 40, 3) := by decide +kernel
theorem dX5_victim_105 : decode cX5_victim 105 = .ok (.aload_n 0, 1) := by decide +kernel
theorem dX5_victim_106 : decode cX5_victim 106 = .ok (.iload_n 2, 1) := by decide +kernel
theorem dX5_victim_107 : decode cX5_victim 107 = .ok (.iconst 1, 1) := by decide +kernel
theorem dX5_victim_108 : decode cX5_victim 108 = .ok (.invokevirtual 40, 3) := by decide +kernel
theorem dX5_victim_111 : decode cX5_victim 111 = .ok (.if_icmp .ne 23, 3) := by decide +kernel
theorem dX5_victim_114 : decode cX5_victim 114 = .ok (.aload_n 0, 1) := by decide +kernel
theorem dX5_victim_115 : decode cX5_victim 115 = .ok (.iload 4, 2) := by decide +kernel
theorem dX5_victim_117 : decode cX5_victim 117 = .ok (.iconst 3, 1) := by decide +kernel
theorem dX5_victim_118 : decode cX5_victim 118 = .ok (.invokevirtual 40, 3) := by decide +kernel
theorem dX5_victim_121 : decode cX5_victim 121 = .ok (.aload_n 0, 1) := by decide +kernel
theorem dX5_victim_122 : decode cX5_victim 122 = .ok (.iload_n 2, 1) := by decide +kernel
theorem dX5_victim_123 : decode cX5_victim 123 = .ok (.iconst 3, 1) := by decide +kernel
theorem dX5_victim_124 : decode cX5_victim 124 = .ok (.invokevirtual 40, 3) := by decide +kernel
theorem dX5_victim_127 : decode cX5_victim 127 = .ok (.if_icmp .le 7, 3) := by decide +kernel
theorem dX5_victim_130 : decode cX5_victim 130 = .ok (.iconst 1, 1) := by decide +kernel
theorem dX5_victim_131 : decode cX5_victim 131 = .ok (.goto 4, 3) := by decide +kernel
theorem dX5_victim_134 : decode cX5_victim 134 = .ok (.iconst 0, 1) := by decide +kernel
theorem dX5_victim_135 : decode cX5_victim 135 = .ok (.istore 5, 2) := by decide +kernel
theorem dX5_victim_137 : decode cX5_victim 137 = .ok (.iload 5, 2) := by decide +kernel
theorem dX5_victim_139 : decode cX5_victim 139 = .ok (.ifCond .eq 8, 3) := by decide +kernel
theorem dX5_victim_142 : decode cX5_victim 142 = .ok (.iload 4, 2) := by decide +kernel
theorem dX5_victim_144 : decode cX5_victim 144 = .ok (.goto 4, 3) := by decide +kernel
theorem dX5_victim_147 : decode cX5_victim 147 = .ok (.iload_n 2, 1) := by decide +kernel
theorem dX5_victim_148 : decode cX5_victim 148 = .ok (.istore_n 2, 1) := by decide +kernel
theorem dX5_victim_149 : decode cX5_victim 149 = .ok (.iinc 3 1, 3) := by decide +kernel
theorem dX5_victim_152 : decode cX5_victim 152 = .ok (.goto (-105), 3) := by decide +kernel
theorem dX5_victim_155 : decode cX5_victim 155 = .ok (.iload_n 2, 1) := by decide +kernel
theorem dX5_victim_156 : decode cX5_victim 156 = .ok (.ireturn, 1) := by decide +kernel
theorem dX5_breakRings_0 : decode cX5_breakRings 0 = .ok (.aload_n 0, 1) := by decide +kernel
theorem dX5_breakRings_1 : decode cX5_breakRings 1 = .ok (.iload_n 1, 1) := by decide +kernel
theorem dX5_breakRings_2 : decode cX5_breakRings 2 = .ok (.iconst 0, 1) := by decide +kernel
theorem dX5_breakRings_3 : decode cX5_breakRings 3 = .ok (.invokevirtual 40, 3) := by decide +kernel
theorem dX5_breakRings_6 : decode cX5_breakRings 6 = .ok (.iconst 2, 1) := by decide +kernel
theorem dX5_breakRings_7 : decode cX5_breakRings 7 = .ok (.if_icmp .ne 96, 3) := by decide +kernel
theorem dX5_breakRings_10 : decode cX5_breakRings 10 = .ok (.aload_n 0, 1) := by decide +kernel
theorem dX5_breakRings_11 : decode cX5_breakRings 11 = .ok (.iload_n 1, 1) := by decide +kernel
theorem dX5_breakRings_12 : decode cX5_breakRings 12 = .ok (.invokevirtual 89, 3) := by decide +kernel
theorem dX5_breakRings_15 : decode cX5_breakRings 15 = .ok (.ifCond .eq 88, 3) := by decide +kernel
theorem dX5_breakRings_18 : decode cX5_breakRings 18 = .ok (.aload_n 0, 1) := by decide +kernel
theorem dX5_breakRings_19 : decode cX5_breakRings 19 = .ok (.invokevirtual 93, 3) := by decide +kernel
theorem dX5_breakRings_22 : decode cX5_breakRings 22 = .ok (.istore_n 2, 1) := by decide +kernel
theorem dX5_breakRings_23 : decode cX5_breakRings 23 = .ok (.aload_n 0, 1) := by decide +kernel
theorem dX5_breakRings_24 : decode cX5_breakRings 24 = .ok (.dup, 1) := by decide +kernel
theorem dX5_breakRings_25 : decode cX5_breakRings 25 = .ok (.getfield 97, 3) := by decide +kernel
theorem dX5_breakRings_28 : decode cX5_breakRings 28 = .ok (.iconst 1, 1) := by decide +kernel
theorem dX5_breakRings_29 : decode cX5_breakRings 29 = .ok (.iload_n 2, 1) := by decide +kernel
theorem dX5_breakRings_30 : decode cX5_breakRings 30 = .ok (.ishl, 1) := by decide +kernel
theorem dX5_breakRings_31 : decode cX5_breakRings 31 = .ok (.ior, 1) := by decide +kernel
theorem dX5_breakRings_32 : decode cX5_breakRings 32 = .ok (.putfield 97, 3) := by decide +kernel
theorem dX5_breakRings_35 : decode cX5_breakRings 35 = .ok (.aload_n 0, 1) := by decide +kernel
theorem dX5_breakRings_36 : decode cX5_breakRings 36 = .ok (.getfield 7, 3) := by decide +kernel
theorem dX5_breakRings_39 : decode cX5_breakRings 39 = .ok (.sipush 219, 3) := by decide +kernel
theorem dX5_breakRings_42 : decode cX5_breakRings 42 = .ok (.dup2, 1) := by decide +kernel
theorem dX5_breakRings_43 : decode cX5_breakRings 43 = .ok (.iaload, 1) := by decide +kernel
theorem dX5_breakRings_44 : decode cX5_breakRings 44 = .ok (.iconst 1, 1) := by decide +kernel
theorem dX5_breakRings_45 : decode cX5_breakRings 45 = .ok (.iadd, 1) := by decide +kernel
theorem dX5_breakRings_46 : decode cX5_breakRings 46 = .ok (.iastore, 1) := by decide +kernel
theorem dX5_breakRings_47 : decode cX5_breakRings 47 = .ok (.aload_n 0, 1) := by decide +kernel
theorem dX5_breakRings_48 : decode cX5_breakRings 48 = .ok (.getfield 7, 3) := by decide +kernel
theorem dX5_breakRings_51 : decode cX5_breakRings 51 = .ok (.sipush 220, 3) := by decide +kernel
theorem dX5_breakRings_54 : decode cX5_breakRings 54 = .ok (.dup2, 1) := by decide +kernel
theorem dX5_breakRings_55 : decode cX5_breakRings 55 = .ok (.iaload, 1) := by decide +kernel
theorem dX5_breakRings_56 : decode cX5_breakRings 56 = .ok (.aload_n 0, 1) := by decide +kernel
theorem dX5_breakRings_57 : decode cX5_breakRings 57 = .ok (.iload_n 2, 1) := by decide +kernel
theorem dX5_breakRings_58 : decode cX5_breakRings 58 = .ok (.iconst 1, 1) := by decide +kernel
theorem dX5_breakRings_59 : decode cX5_breakRings 59 = .ok (.invokevirtual 40, 3) := by decide +kernel
theorem dX5_breakRings_62 : decode cX5_breakRings 62 = .ok (.iadd, 1) := by decide +kernel
theorem dX5_breakRings_63 : decode cX5_breakRings 63 = .ok (.iastore, 1) := by decide +kernel
theorem dX5_breakRings_64 : decode cX5_breakRings 64 = .ok (.aload_n 0, 1) := by decide +kernel
theorem dX5_breakRings_65 : decode cX5_breakRings 65 = .ok (.iload_n 2, 1) := by decide +kernel
theorem dX5_breakRings_66 : decode cX5_breakRings 66 = .ok (.invokevirtual 74, 3) := by decide +kernel
theorem dX5_breakRings_69 : decode cX5_breakRings 69 = .ok (.aload_n 0, 1) := by decide +kernel
theorem dX5_breakRings_70 : decode cX5_breakRings 70 = .ok (.iload_n 2, 1) := by decide +kernel
theorem dX5_breakRings_71 : decode cX5_breakRings 71 = .ok (.invokevirtual 100, 3) := by decide +kernel
theorem dX5_breakRings_74 : decode cX5_breakRings 74 = .ok (.aload_n 0, 1) := by decide +kernel
theorem dX5_breakRings_75 : decode cX5_breakRings 75 = .ok (.iload_n 2, 1) := by decide +kernel
theorem dX5_breakRings_76 : decode cX5_breakRings 76 = .ok (.iconst 1, 1) := by decide +kernel
theorem dX5_breakRings_77 : decode cX5_breakRings 77 = .ok (.iconst 0, 1) := by decide +kernel
theorem dX5_breakRings_78 : decode cX5_breakRings 78 = .ok (.invokevirtual 44, 3) := by decide +kernel
theorem dX5_breakRings_81 : decode cX5_breakRings 81 = .ok (.aload_n 0, 1) := by decide +kernel
theorem dX5_breakRings_82 : decode cX5_breakRings 82 = .ok (.iload_n 2, 1) := by decide +kernel
theorem dX5_breakRings_83 : decode cX5_breakRings 83 = .ok (.iconst 2, 1) := by decide +kernel
theorem dX5_breakRings_84 : decode cX5_breakRings 84 = .ok (.aload_n 0, 1) := by decide +kernel
theorem dX5_breakRings_85 : decode cX5_breakRings 85 = .ok (.iload_n 2, 1) := by decide +kernel
theorem dX5_breakRings_86 : decode cX5_breakRings 86 = .ok (.iconst 2, 1) := by decide +kernel
theorem dX5_breakRings_87 : decode cX5_breakRings 87 = .ok (.invokevirtual 40, 3) := by decide +kernel
theorem dX5_breakRings_90 : decode cX5_breakRings 90 = .ok (.iconst 1, 1) := by decide +kernel
theorem dX5_breakRings_91 : decode cX5_breakRings 91 = .ok (.iadd, 1) := by decide +kernel
theorem dX5_breakRings_92 : decode cX5_breakRings 92 = .ok (.invokevirtual 44, 3) := by decide +kernel
theorem dX5_breakRings_95 : decode cX5_breakRings 95 = .ok (.aload_n 0, 1) := by decide +kernel
theorem dX5_breakRings_96 : decode cX5_breakRings 96 = .ok (.invokevirtual 103, 3) := by decide +kernel
theorem dX5_breakRings_99 : decode cX5_breakRings 99 = .ok (.pop, 1) := by decide +kernel
theorem dX5_breakRings_100 : decode cX5_breakRings 100 = .ok (.goto (-100), 3) := by decide +kernel
theorem dX5_breakRings_103 : decode cX5_breakRings 103 = .ok (.return_, 1) := by decide +kernel
theorem dX5_whyNoBegin_0 : decode cX5_whyNoBegin 0 = .ok (.iload_n 1, 1) := by decide +kernel
theorem dX5_whyNoBegin_1 : decode cX5_whyNoBegin 1 = .ok (.invokestatic 106, 3) := by decide +kernel
theorem dX5_whyNoBegin_4 : decode cX5_whyNoBegin 4 = .ok (.ifCond .ne 7, 3) := by decide +kernel
theorem dX5_whyNoBegin_7 : decode cX5_whyNoBegin 7 = .ok (.iconst 1, 1) := by decide +kernel
theorem dX5_whyNoBegin_8 : decode cX5_whyNoBegin 8 = .ok (.goto 17, 3) := by decide +kernel
theorem dX5_whyNoBegin_11 : decode cX5_whyNoBegin 11 = .ok (.aload_n 0, 1) := by decide +kernel
theorem dX5_whyNoBegin_12 : decode cX5_whyNoBegin 12 = .ok (.iload_n 1, 1) := by decide +kernel
theorem dX5_whyNoBegin_13 : decode cX5_whyNoBegin 13 = .ok (.iconst 0, 1) := by decide +kernel
theorem dX5_whyNoBegin_14 : decode cX5_whyNoBegin 14 = .ok (.invokevirtual 40, 3) := by decide +kernel
theorem dX5_whyNoBegin_17 : decode cX5_whyNoBegin 17 = .ok (.ifCond .ne 7, 3) := by decide +kernel
theorem dX5_whyNoBegin_20 : decode cX5_whyNoBegin 20 = .ok (.iconst 0, 1) := by decide +kernel
theorem dX5_whyNoBegin_21 : decode cX5_whyNoBegin 21 = .ok (.goto 4, 3) := by decide +kernel
theorem dX5_whyNoBegin_24 : decode cX5_whyNoBegin 24 = .ok (.iconst 2, 1) := by decide +kernel
theorem dX5_whyNoBegin_25 : decode cX5_whyNoBegin 25 = .ok (.ireturn, 1) := by decide +kernel
theorem dX5_doBegin_0 : decode cX5_doBegin 0 = .ok (.aload_n 0, 1) := by decide +kernel
theorem dX5_doBegin_1 : decode cX5_doBegin 1 = .ok (.iload_n 1, 1) := by decide +kernel
theorem dX5_doBegin_2 : decode cX5_doBegin 2 = .ok (.iconst 0, 1) := by decide +kernel
theorem dX5_doBegin_3 : decode cX5_doBegin 3 = .ok (.iconst 1, 1) := by decide +kernel
theorem dX5_doBegin_4 : decode cX5_doBegin 4 = .ok (.invokevirtual 44, 3) := by decide +kernel
theorem dX5_doBegin_7 : decode cX5_doBegin 7 = .ok (.aload_n 0, 1) := by decide +kernel
theorem dX5_doBegin_8 : decode cX5_doBegin 8 = .ok (.iload_n 1, 1) := by decide +kernel
theorem dX5_doBegin_9 : decode cX5_doBegin 9 = .ok (.iconst 1, 1) := by decide +kernel
theorem dX5_doBegin_10 : decode cX5_doBegin 10 = .ok (.iconst 0, 1) := by decide +kernel
theorem dX5_doBegin_11 : decode cX5_doBegin 11 = .ok (.invokevirtual 44, 3) := by decide +kernel
theorem dX5_doBegin_14 : decode cX5_doBegin 14 = .ok (.aload_n 0, 1) := by decide +kernel
theorem dX5_doBegin_15 : decode cX5_doBegin 15 = .ok (.iload_n 1, 1) := by decide +kernel
theorem dX5_doBegin_16 : decode cX5_doBegin 16 = .ok (.iconst 2, 1) := by decide +kernel
theorem dX5_doBegin_17 : decode cX5_doBegin 17 = .ok (.iconst 0, 1) := by decide +kernel
theorem dX5_doBegin_18 : decode cX5_doBegin 18 = .ok (.invokevirtual 44, 3) := by decide +kernel
theorem dX5_doBegin_21 : decode cX5_doBegin 21 = .ok (.aload_n 0, 1) := by decide +kernel
theorem dX5_doBegin_22 : decode cX5_doBegin 22 = .ok (.iload_n 1, 1) := by decide +kernel
theorem dX5_doBegin_23 : decode cX5_doBegin 23 = .ok (.iconst 3, 1) := by decide +kernel
theorem dX5_doBegin_24 : decode cX5_doBegin 24 = .ok (.aload_n 0, 1) := by decide +kernel
theorem dX5_doBegin_25 : decode cX5_doBegin 25 = .ok (.getfield 7, 3) := by decide +kernel
theorem dX5_doBegin_28 : decode cX5_doBegin 28 = .ok (.sipush 218, 3) := by decide +kernel
theorem dX5_doBegin_31 : decode cX5_doBegin 31 = .ok (.iaload, 1) := by decide +kernel
theorem dX5_doBegin_32 : decode cX5_doBegin 32 = .ok (.invokevirtual 44, 3) := by decide +kernel
theorem dX5_doBegin_35 : decode cX5_doBegin 35 = .ok (.aload_n 0, 1) := by decide +kernel
theorem dX5_doBegin_36 : decode cX5_doBegin 36 = .ok (.getfield 7, 3) := by decide +kernel
theorem dX5_doBegin_39 : decode cX5_doBegin 39 = .ok (.sipush 218, 3) := by decide +kernel
theorem dX5_doBegin_42 : decode cX5_doBegin 42 = .ok (.dup2, 1) := by decide +kernel
theorem dX5_doBegin_43 : decode cX5_doBegin 43 = .ok (.iaload, 1) := by decide +kernel
theorem dX5_doBegin_44 : decode cX5_doBegin 44 = .ok (.iconst 1, 1) := by decide +kernel
theorem dX5_doBegin_45 : decode cX5_doBegin 45 = .ok (.iadd, 1) := by decide +kernel
theorem dX5_doBegin_46 : decode cX5_doBegin 46 = .ok (.iastore, 1) := by decide +kernel
theorem dX5_doBegin_47 : decode cX5_doBegin 47 = .ok (.aload_n 0, 1) := by decide +kernel
theorem dX5_doBegin_48 : decode cX5_doBegin 48 = .ok (.iload_n 1, 1) := by decide +kernel
theorem dX5_doBegin_49 : decode cX5_doBegin 49 = .ok (.iconst 3, 1) := by decide +kernel
theorem dX5_doBegin_50 : decode cX5_doBegin 50 = .ok (.invokevirtual 40, 3) := by decide +kernel
theorem dX5_doBegin_53 : decode cX5_doBegin 53 = .ok (.ireturn, 1) := by decide +kernel
theorem dX5_begin_0 : decode cX5_begin 0 = .ok (.aload_n 0, 1) := by decide +kernel
theorem dX5_begin_1 : decode cX5_begin 1 = .ok (.aload_n 0, 1) := by decide +kernel
theorem dX5_begin_2 : decode cX5_begin 2 = .ok (.iload_n 1, 1) := by decide +kernel
theorem dX5_begin_3 : decode cX5_begin 3 = .ok (.invokevirtual 109, 3) := by decide +kernel
theorem dX5_begin_6 : decode cX5_begin 6 = .ok (.putfield 32, 3) := by decide +kernel
theorem dX5_begin_9 : decode cX5_begin 9 = .ok (.aload_n 0, 1) := by decide +kernel
theorem dX5_begin_10 : decode cX5_begin 10 = .ok (.getfield 32, 3) := by decide +kernel
theorem dX5_begin_13 : decode cX5_begin 13 = .ok (.ifCond .le 5, 3) := by decide +kernel
theorem dX5_begin_16 : decode cX5_begin 16 = .ok (.iconst 0, 1) := by decide +kernel
theorem dX5_begin_17 : decode cX5_begin 17 = .ok (.ireturn, 1) := by decide +kernel
theorem dX5_begin_18 : decode cX5_begin 18 = .ok (.aload_n 0, 1) := by decide +kernel
theorem dX5_begin_19 : decode cX5_begin 19 = .ok (.invokevirtual 112, 3) := by decide +kernel
theorem dX5_begin_22 : decode cX5_begin 22 = .ok (.aload_n 0, 1) := by decide +kernel
theorem dX5_begin_23 : decode cX5_begin 23 = .ok (.iload_n 1, 1) := by decide +kernel
theorem dX5_begin_24 : decode cX5_begin 24 = .ok (.invokevirtual 115, 3) := by decide +kernel
theorem dX5_begin_27 : decode cX5_begin 27 = .ok (.ireturn, 1) := by decide +kernel
theorem dX5_whyNoRequest_0 : decode cX5_whyNoRequest 0 = .ok (.iload_n 1, 1) := by decide +kernel
theorem dX5_whyNoRequest_1 : decode cX5_whyNoRequest 1 = .ok (.invokestatic 106, 3) := by decide +kernel
theorem dX5_whyNoRequest_4 : decode cX5_whyNoRequest 4 = .ok (.ifCond .eq 10, 3) := by decide +kernel
theorem dX5_whyNoRequest_7 : decode cX5_whyNoRequest 7 = .ok (.iload_n 2, 1) := by decide +kernel
theorem dX5_whyNoRequest_8 : decode cX5_whyNoRequest 8 = .ok (.invokestatic 118, 3) := by decide +kernel
theorem dX5_whyNoRequest_11 : decode cX5_whyNoRequest 11 = .ok (.ifCond .ne 5, 3) := by decide +kernel
theorem dX5_whyNoRequest_14 : decode cX5_whyNoRequest 14 = .ok (.iconst 1, 1) := by decide +kernel
theorem dX5_whyNoRequest_15 : decode cX5_whyNoRequest 15 = .ok (.ireturn, 1) := by decide +kernel
theorem dX5_whyNoRequest_16 : decode cX5_whyNoRequest 16 = .ok (.iload_n 3, 1) := by decide +kernel
theorem dX5_whyNoRequest_17 : decode cX5_whyNoRequest 17 = .ok (.invokestatic 121, 3) := by decide +kernel
theorem dX5_whyNoRequest_20 : decode cX5_whyNoRequest 20 = .ok (.ifCond .ne 7, 3) := by decide +kernel
theorem dX5_whyNoRequest_23 : decode cX5_whyNoRequest 23 = .ok (.iconst 2, 1) := by decide +kernel
theorem dX5_whyNoRequest_24 : decode cX5_whyNoRequest 24 = .ok (.goto 16, 3) := by decide +kernel
theorem dX5_whyNoRequest_27 : decode cX5_whyNoRequest 27 = .ok (.aload_n 0, 1) := by decide +kernel
theorem dX5_whyNoRequest_28 : decode cX5_whyNoRequest 28 = .ok (.iload_n 1, 1) := by decide +kernel
theorem dX5_whyNoRequest_29 : decode cX5_whyNoRequest 29 = .ok (.invokevirtual 124, 3) := by decide +kernel
theorem dX5_whyNoRequest_32 : decode cX5_whyNoRequest 32 = .ok (.ifCond .eq 7, 3) := by decide +kernel
theorem dX5_whyNoRequest_35 : decode cX5_whyNoRequest 35 = .ok (.iconst 0, 1) := by decide +kernel
theorem dX5_whyNoRequest_36 : decode cX5_whyNoRequest 36 = .ok (.goto 4, 3) := by decide +kernel
theorem dX5_whyNoRequest_39 : decode cX5_whyNoRequest 39 = .ok (.iconst 3, 1) := by decide +kernel
theorem dX5_whyNoRequest_40 : decode cX5_whyNoRequest 40 = .ok (.ireturn, 1) := by decide +kernel
theorem dX5_doRequest_0 : decode cX5_doRequest 0 = .ok (.aload_n 0, 1) := by decide +kernel
theorem dX5_doRequest_1 : decode cX5_doRequest 1 = .ok (.iconst 0, 1) := by decide +kernel
theorem dX5_doRequest_2 : decode cX5_doRequest 2 = .ok (.putfield 97, 3) := by decide +kernel
theorem dX5_doRequest_5 : decode cX5_doRequest 5 = .ok (.aload_n 0, 1) := by decide +kernel
theorem dX5_doRequest_6 : decode cX5_doRequest 6 = .ok (.iload_n 1, 1) := by decide +kernel
theorem dX5_doRequest_7 : decode cX5_doRequest 7 = .ok (.iload_n 2, 1) := by decide +kernel
theorem dX5_doRequest_8 : decode cX5_doRequest 8 = .ok (.invokevirtual 51, 3) := by decide +kernel
theorem dX5_doRequest_11 : decode cX5_doRequest 11 = .ok (.istore 4, 2) := by decide +kernel
theorem dX5_doRequest_13 : decode cX5_doRequest 13 = .ok (.iload 4, 2) := by decide +kernel
theorem dX5_doRequest_15 : decode cX5_doRequest 15 = .ok (.iload_n 3, 1) := by decide +kernel
theorem dX5_doRequest_16 : decode cX5_doRequest 16 = .ok (.if_icmp .lt 5, 3) := by decide +kernel
theorem dX5_doRequest_19 : decode cX5_doRequest 19 = .ok (.iconst 1, 1) := by decide +kernel
theorem dX5_doRequest_20 : decode cX5_doRequest 20 = .ok (.ireturn, 1) := by decide +kernel
theorem dX5_doRequest_21 : decode cX5_doRequest 21 = .ok (.iload 4, 2) := by decide +kernel
theorem dX5_doRequest_23 : decode cX5_doRequest 23 = .ok (.iconst 1, 1) := by decide +kernel
theorem dX5_doRequest_24 : decode cX5_doRequest 24 = .ok (.if_icmp .ne 15, 3) := by decide +kernel
theorem dX5_doRequest_27 : decode cX5_doRequest 27 = .ok (.aload_n 0, 1) := by decide +kernel
theorem dX5_doRequest_28 : decode cX5_doRequest 28 = .ok (.iload_n 1, 1) := by decide +kernel
theorem dX5_doRequest_29 : decode cX5_doRequest 29 = .ok (.iload_n 2, 1) := by decide +kernel
theorem dX5_doRequest_30 : decode cX5_doRequest 30 = .ok (.invokevirtual 127, 3) := by decide +kernel
theorem dX5_doRequest_33 : decode cX5_doRequest 33 = .ok (.ifCond .eq 33, 3) := by decide +kernel
theorem dX5_doRequest_36 : decode cX5_doRequest 36 = .ok (.goto 21, 3) := by decide +kernel
theorem dX5_doRequest_39 : decode cX5_doRequest 39 = .ok (.aload_n 0, 1) := by decide +kernel
theorem dX5_doRequest_40 : decode cX5_doRequest 40 = .ok (.iload_n 2, 1) := by decide +kernel
theorem dX5_doRequest_41 : decode cX5_doRequest 41 = .ok (.invokevirtual 61, 3) := by decide +kernel
theorem dX5_doRequest_44 : decode cX5_doRequest 44 = .ok (.ifCond .ne 22, 3) := by decide +kernel
theorem dX5_doRequest_47 : decode cX5_doRequest 47 = .ok (.aload_n 0, 1) := by decide +kernel
theorem dX5_doRequest_48 : decode cX5_doRequest 48 = .ok (.iload_n 1, 1) := by decide +kernel
theorem dX5_doRequest_49 : decode cX5_doRequest 49 = .ok (.iload_n 2, 1) := by decide +kernel
theorem dX5_doRequest_50 : decode cX5_doRequest 50 = .ok (.iload_n 3, 1) := by decide +kernel
theorem dX5_doRequest_51 : decode cX5_doRequest 51 = .ok (.invokevirtual 71, 3) := by decide +kernel
theorem dX5_doRequest_54 : decode cX5_doRequest 54 = .ok (.ifCond .eq 12, 3) := by decide +kernel
theorem dX5_doRequest_57 : decode cX5_doRequest 57 = .ok (.aload_n 0, 1) := by decide +kernel
theorem dX5_doRequest_58 : decode cX5_doRequest 58 = .ok (.iload_n 1, 1) := by decide +kernel
theorem dX5_doRequest_59 : decode cX5_doRequest 59 = .ok (.iload_n 2, 1) := by decide +kernel
theorem dX5_doRequest_60 : decode cX5_doRequest 60 = .ok (.iload_n 3, 1) := by decide +kernel
theorem dX5_doRequest_61 : decode cX5_doRequest 61 = .ok (.invokevirtual 77, 3) := by decide +kernel
theorem dX5_doRequest_64 : decode cX5_doRequest 64 = .ok (.iconst 1, 1) := by decide +kernel
theorem dX5_doRequest_65 : decode cX5_doRequest 65 = .ok (.ireturn, 1) := by decide +kernel
theorem dX5_doRequest_66 : decode cX5_doRequest 66 = .ok (.aload_n 0, 1) := by decide +kernel
theorem dX5_doRequest_67 : decode cX5_doRequest 67 = .ok (.iload_n 2, 1) := by decide +kernel
theorem dX5_doRequest_68 : decode cX5_doRequest 68 = .ok (.invokevirtual 61, 3) := by decide +kernel
theorem dX5_doRequest_71 : decode cX5_doRequest 71 = .ok (.istore 5, 2) := by decide +kernel
theorem dX5_doRequest_73 : decode cX5_doRequest 73 = .ok (.iload 4, 2) := by decide +kernel
theorem dX5_doRequest_75 : decode cX5_doRequest 75 = .ok (.iconst 1, 1) := by decide +kernel
theorem dX5_doRequest_76 : decode cX5_doRequest 76 = .ok (.if_icmp .ne 37, 3) := by decide +kernel
theorem dX5_doRequest_79 : decode cX5_doRequest 79 = .ok (.iconst 0, 1) := by decide +kernel
theorem dX5_doRequest_80 : decode cX5_doRequest 80 = .ok (.istore 5, 2) := by decide +kernel
theorem dX5_doRequest_82 : decode cX5_doRequest 82 = .ok (.iload 5, 2) := by decide +kernel
theorem dX5_doRequest_84 : decode cX5_doRequest 84 = .ok (.aload_n 0, 1) := by decide +kernel
theorem dX5_doRequest_85 : decode cX5_doRequest 85 = .ok (.iload_n 2, 1) := by decide +kernel
theorem dX5_doRequest_86 : decode cX5_doRequest 86 = .ok (.invokevirtual 61, 3) := by decide +kernel
theorem dX5_doRequest_89 : decode cX5_doRequest 89 = .ok (.if_icmp .ge 24, 3) := by decide +kernel
theorem dX5_doRequest_92 : decode cX5_doRequest 92 = .ok (.aload_n 0, 1) := by decide +kernel
theorem dX5_doRequest_93 : decode cX5_doRequest 93 = .ok (.aload_n 0, 1) := by decide +kernel
theorem dX5_doRequest_94 : decode cX5_doRequest 94 = .ok (.iload_n 2, 1) := by decide +kernel
theorem dX5_doRequest_95 : decode cX5_doRequest 95 = .ok (.iload 5, 2) := by decide +kernel
theorem dX5_doRequest_97 : decode cX5_doRequest 97 = .ok (.invokevirtual 65, 3) := by decide +kernel
theorem dX5_doRequest_100 : decode cX5_doRequest 100 = .ok (.iload_n 2, 1) := by decide +kernel
theorem dX5_doRequest_101 : decode cX5_doRequest 101 = .ok (.invokevirtual 130, 3) := by decide +kernel
theorem dX5_doRequest_104 : decode cX5_doRequest 104 = .ok (.ifCond .eq 9, 3) := by decide +kernel
theorem dX5_doRequest_107 : decode cX5_doRequest 107 = .ok (.iinc 5 1, 3) := by decide +kernel
theorem dX5_doRequest_110 : decode cX5_doRequest 110 = .ok (.goto (-28), 3) := by decide +kernel
theorem dX5_doRequest_113 : decode cX5_doRequest 113 = .ok (.aload_n 0, 1) := by decide +kernel
theorem dX5_doRequest_114 : decode cX5_doRequest 114 = .ok (.iload_n 1, 1) := by decide +kernel
theorem dX5_doRequest_115 : decode cX5_doRequest 115 = .ok (.iload_n 2, 1) := by decide +kernel
theorem dX5_doRequest_116 : decode cX5_doRequest 116 = .ok (.iload_n 3, 1) := by decide +kernel
theorem dX5_doRequest_117 : decode cX5_doRequest 117 = .ok (.iload 5, 2) := by decide +kernel
theorem dX5_doRequest_119 : decode cX5_doRequest 119 = .ok (.invokevirtual 133, 3) := by decide +kernel
theorem dX5_doRequest_122 : decode cX5_doRequest 122 = .ok (.aload_n 0, 1) := by decide +kernel
theorem dX5_doRequest_123 : decode cX5_doRequest 123 = .ok (.iload_n 1, 1) := by decide +kernel
theorem dX5_doRequest_124 : decode cX5_doRequest 124 = .ok (.invokevirtual 137, 3) := by decide +kernel
theorem dX5_doRequest_127 : decode cX5_doRequest 127 = .ok (.aload_n 0, 1) := by decide +kernel
theorem dX5_doRequest_128 : decode cX5_doRequest 128 = .ok (.getfield 97, 3) := by decide +kernel
theorem dX5_doRequest_131 : decode cX5_doRequest 131 = .ok (.iload_n 1, 1) := by decide +kernel
theorem dX5_doRequest_132 : decode cX5_doRequest 132 = .ok (.ishr, 1) := by decide +kernel
theorem dX5_doRequest_133 : decode cX5_doRequest 133 = .ok (.iconst 1, 1) := by decide +kernel
theorem dX5_doRequest_134 : decode cX5_doRequest 134 = .ok (.iand, 1) := by decide +kernel
theorem dX5_doRequest_135 : decode cX5_doRequest 135 = .ok (.iconst 1, 1) := by decide +kernel
theorem dX5_doRequest_136 : decode cX5_doRequest 136 = .ok (.if_icmp .ne 7, 3) := by decide +kernel
theorem dX5_doRequest_139 : decode cX5_doRequest 139 = .ok (.iconst 3, 1) := by decide +kernel
theorem dX5_doRequest_140 : decode cX5_doRequest 140 = .ok (.goto 18, 3) := by decide +kernel
theorem dX5_doRequest_143 : decode cX5_doRequest 143 = .ok (.aload_n 0, 1) := by decide +kernel
theorem dX5_doRequest_144 : decode cX5_doRequest 144 = .ok (.iload_n 1, 1) := by decide +kernel
theorem dX5_doRequest_145 : decode cX5_doRequest 145 = .ok (.iconst 0, 1) := by decide +kernel
theorem dX5_doRequest_146 : decode cX5_doRequest 146 = .ok (.invokevirtual 40, 3) := by decide +kernel
theorem dX5_doRequest_149 : decode cX5_doRequest 149 = .ok (.iconst 2, 1) := by decide +kernel
theorem dX5_doRequest_150 : decode cX5_doRequest 150 = .ok (.if_icmp .ne 7, 3) := by decide +kernel
theorem dX5_doRequest_153 : decode cX5_doRequest 153 = .ok (.iconst 2, 1) := by decide +kernel
theorem dX5_doRequest_154 : decode cX5_doRequest 154 = .ok (.goto 4, 3) := by decide +kernel
theorem dX5_doRequest_157 : decode cX5_doRequest 157 = .ok (.iconst 1, 1) := by decide +kernel
theorem dX5_doRequest_158 : decode cX5_doRequest 158 = .ok (.ireturn, 1) := by decide +kernel
theorem dX5_request_0 : decode cX5_request 0 = .ok (.aload_n 0, 1) := by decide +kernel
theorem dX5_request_1 : decode cX5_request 1 = .ok (.aload_n 0, 1) := by decide +kernel
theorem dX5_request_2 : decode cX5_request 2 = .ok (.iload_n 1, 1) := by decide +kernel
theorem dX5_request_3 : decode cX5_request 3 = .ok (.iload_n 2, 1) := by decide +kernel
theorem dX5_request_4 : decode cX5_request 4 = .ok (.iload_n 3, 1) := by decide +kernel
theorem dX5_request_5 : decode cX5_request 5 = .ok (.invokevirtual 140, 3) := by decide +kernel
theorem dX5_request_8 : decode cX5_request 8 = .ok (.putfield 32, 3) := by decide +kernel
theorem dX5_request_11 : decode cX5_request 11 = .ok (.aload_n 0, 1) := by decide +kernel
theorem dX5_request_12 : decode cX5_request 12 = .ok (.getfield 32, 3) := by decide +kernel
theorem dX5_request_15 : decode cX5_request 15 = .ok (.ifCond .le 5, 3) := by decide +kernel
theorem dX5_request_18 : decode cX5_request 18 = .ok (.iconst 0, 1) := by decide +kernel
theorem dX5_request_19 : decode cX5_request 19 = .ok (.ireturn, 1) := by decide +kernel
theorem dX5_request_20 : decode cX5_request 20 = .ok (.aload_n 0, 1) := by decide +kernel
theorem dX5_request_21 : decode cX5_request 21 = .ok (.invokevirtual 112, 3) := by decide +kernel
theorem dX5_request_24 : decode cX5_request 24 = .ok (.aload_n 0, 1) := by decide +kernel
theorem dX5_request_25 : decode cX5_request 25 = .ok (.iload_n 1, 1) := by decide +kernel
theorem dX5_request_26 : decode cX5_request 26 = .ok (.iload_n 2, 1) := by decide +kernel
theorem dX5_request_27 : decode cX5_request 27 = .ok (.iload_n 3, 1) := by decide +kernel
theorem dX5_request_28 : decode cX5_request 28 = .ok (.invokevirtual 144, 3) := by decide +kernel
theorem dX5_request_31 : decode cX5_request 31 = .ok (.ireturn, 1) := by decide +kernel
theorem dX5_whyNoWork_0 : decode cX5_whyNoWork 0 = .ok (.iload_n 1, 1) := by decide +kernel
theorem dX5_whyNoWork_1 : decode cX5_whyNoWork 1 = .ok (.invokestatic 106, 3) := by decide +kernel
theorem dX5_whyNoWork_4 : decode cX5_whyNoWork 4 = .ok (.ifCond .ne 7, 3) := by decide +kernel
theorem dX5_whyNoWork_7 : decode cX5_whyNoWork 7 = .ok (.iconst 1, 1) := by decide +kernel
theorem dX5_whyNoWork_8 : decode cX5_whyNoWork 8 = .ok (.goto 31, 3) := by decide +kernel
theorem dX5_whyNoWork_11 : decode cX5_whyNoWork 11 = .ok (.iload_n 2, 1) := by decide +kernel
theorem dX5_whyNoWork_12 : decode cX5_whyNoWork 12 = .ok (.iconst 1, 1) := by decide +kernel
theorem dX5_whyNoWork_13 : decode cX5_whyNoWork 13 = .ok (.sipush 1000, 3) := by decide +kernel
theorem dX5_whyNoWork_16 : decode cX5_whyNoWork 16 = .ok (.invokestatic 36, 3) := by decide +kernel
theorem dX5_whyNoWork_19 : decode cX5_whyNoWork 19 = .ok (.ifCond .ne 7, 3) := by decide +kernel
theorem dX5_whyNoWork_22 : decode cX5_whyNoWork 22 = .ok (.iconst 2, 1) := by decide +kernel
theorem dX5_whyNoWork_23 : decode cX5_whyNoWork 23 = .ok (.goto 16, 3) := by decide +kernel
theorem dX5_whyNoWork_26 : decode cX5_whyNoWork 26 = .ok (.aload_n 0, 1) := by decide +kernel
theorem dX5_whyNoWork_27 : decode cX5_whyNoWork 27 = .ok (.iload_n 1, 1) := by decide +kernel
theorem dX5_whyNoWork_28 : decode cX5_whyNoWork 28 = .ok (.invokevirtual 124, 3) := by decide +kernel
theorem dX5_whyNoWork_31 : decode cX5_whyNoWork 31 = .ok (.ifCond .eq 7, 3) := by decide +kernel
theorem dX5_whyNoWork_34 : decode cX5_whyNoWork 34 = .ok (.iconst 0, 1) := by decide +kernel
theorem dX5_whyNoWork_35 : decode cX5_whyNoWork 35 = .ok (.goto 4, 3) := by decide +kernel
theorem dX5_whyNoWork_38 : decode cX5_whyNoWork 38 = .ok (.iconst 3, 1) := by decide +kernel
theorem dX5_whyNoWork_39 : decode cX5_whyNoWork 39 = .ok (.ireturn, 1) := by decide +kernel
theorem dX5_doWork_0 : decode cX5_doWork 0 = .ok (.aload_n 0, 1) := by decide +kernel
theorem dX5_doWork_1 : decode cX5_doWork 1 = .ok (.iload_n 1, 1) := by decide +kernel
theorem dX5_doWork_2 : decode cX5_doWork 2 = .ok (.iconst 1, 1) := by decide +kernel
theorem dX5_doWork_3 : decode cX5_doWork 3 = .ok (.aload_n 0, 1) := by decide +kernel
theorem dX5_doWork_4 : decode cX5_doWork 4 = .ok (.iload_n 1, 1) := by decide +kernel
theorem dX5_doWork_5 : decode cX5_doWork 5 = .ok (.iconst 1, 1) := by decide +kernel
theorem dX5_doWork_6 : decode cX5_doWork 6 = .ok (.invokevirtual 40, 3) := by decide +kernel
theorem dX5_doWork_9 : decode cX5_doWork 9 = .ok (.iload_n 2, 1) := by decide +kernel
theorem dX5_doWork_10 : decode cX5_doWork 10 = .ok (.iadd, 1) := by decide +kernel
theorem dX5_doWork_11 : decode cX5_doWork 11 = .ok (.invokevirtual 44, 3) := by decide +kernel
theorem dX5_doWork_14 : decode cX5_doWork 14 = .ok (.aload_n 0, 1) := by decide +kernel
theorem dX5_doWork_15 : decode cX5_doWork 15 = .ok (.iload_n 1, 1) := by decide +kernel
theorem dX5_doWork_16 : decode cX5_doWork 16 = .ok (.iconst 1, 1) := by decide +kernel
theorem dX5_doWork_17 : decode cX5_doWork 17 = .ok (.invokevirtual 40, 3) := by decide +kernel
theorem dX5_doWork_20 : decode cX5_doWork 20 = .ok (.ireturn, 1) := by decide +kernel
theorem dX5_work_0 : decode cX5_work 0 = .ok (.aload_n 0, 1) := by decide +kernel
theorem dX5_work_1 : decode cX5_work 1 = .ok (.aload_n 0, 1) := by decide +kernel
theorem dX5_work_2 : decode cX5_work 2 = .ok (.iload_n 1, 1) := by decide +kernel
theorem dX5_work_3 : decode cX5_work 3 = .ok (.iload_n 2, 1) := by decide +kernel
theorem dX5_work_4 : decode cX5_work 4 = .ok (.invokevirtual 147, 3) := by decide +kernel
theorem dX5_work_7 : decode cX5_work 7 = .ok (.putfield 32, 3) := by decide +kernel
theorem dX5_work_10 : decode cX5_work 10 = .ok (.aload_n 0, 1) := by decide +kernel
theorem dX5_work_11 : decode cX5_work 11 = .ok (.getfield 32, 3) := by decide +kernel
theorem dX5_work_14 : decode cX5_work 14 = .ok (.ifCond .le 5, 3) := by decide +kernel
theorem dX5_work_17 : decode cX5_work 17 = .ok (.iconst 0, 1) := by decide +kernel
theorem dX5_work_18 : decode cX5_work 18 = .ok (.ireturn, 1) := by decide +kernel
theorem dX5_work_19 : decode cX5_work 19 = .ok (.aload_n 0, 1) := by decide +kernel
theorem dX5_work_20 : decode cX5_work 20 = .ok (.invokevirtual 112, 3) := by decide +kernel
theorem dX5_work_23 : decode cX5_work 23 = .ok (.aload_n 0, 1) := by decide +kernel
theorem dX5_work_24 : decode cX5_work 24 = .ok (.iload_n 1, 1) := by decide +kernel
theorem dX5_work_25 : decode cX5_work 25 = .ok (.iload_n 2, 1) := by decide +kernel
theorem dX5_work_26 : decode cX5_work 26 = .ok (.invokevirtual 150, 3) := by decide +kernel
theorem dX5_work_29 : decode cX5_work 29 = .ok (.ireturn, 1) := by decide +kernel
theorem dX5_whyNoWithdraw_0 : decode cX5_whyNoWithdraw 0 = .ok (.iload_n 1, 1) := by decide +kernel
theorem dX5_whyNoWithdraw_1 : decode cX5_whyNoWithdraw 1 = .ok (.invokestatic 106, 3) := by decide +kernel
theorem dX5_whyNoWithdraw_4 : decode cX5_whyNoWithdraw 4 = .ok (.ifCond .ne 7, 3) := by decide +kernel
theorem dX5_whyNoWithdraw_7 : decode cX5_whyNoWithdraw 7 = .ok (.iconst 1, 1) := by decide +kernel
theorem dX5_whyNoWithdraw_8 : decode cX5_whyNoWithdraw 8 = .ok (.goto 18, 3) := by decide +kernel
theorem dX5_whyNoWithdraw_11 : decode cX5_whyNoWithdraw 11 = .ok (.aload_n 0, 1) := by decide +kernel
theorem dX5_whyNoWithdraw_12 : decode cX5_whyNoWithdraw 12 = .ok (.iload_n 1, 1) := by decide +kernel
theorem dX5_whyNoWithdraw_13 : decode cX5_whyNoWithdraw 13 = .ok (.iconst 0, 1) := by decide +kernel
theorem dX5_whyNoWithdraw_14 : decode cX5_whyNoWithdraw 14 = .ok (.invokevirtual 40, 3) := by decide +kernel
theorem dX5_whyNoWithdraw_17 : decode cX5_whyNoWithdraw 17 = .ok (.iconst 2, 1) := by decide +kernel
theorem dX5_whyNoWithdraw_18 : decode cX5_whyNoWithdraw 18 = .ok (.if_icmp .ne 7, 3) := by decide +kernel
theorem dX5_whyNoWithdraw_21 : decode cX5_whyNoWithdraw 21 = .ok (.iconst 0, 1) := by decide +kernel
theorem dX5_whyNoWithdraw_22 : decode cX5_whyNoWithdraw 22 = .ok (.goto 4, 3) := by decide +kernel
theorem dX5_whyNoWithdraw_25 : decode cX5_whyNoWithdraw 25 = .ok (.iconst 2, 1) := by decide +kernel
theorem dX5_whyNoWithdraw_26 : decode cX5_whyNoWithdraw 26 = .ok (.ireturn, 1) := by decide +kernel
theorem dX5_doWithdraw_0 : decode cX5_doWithdraw 0 = .ok (.aload_n 0, 1) := by decide +kernel
theorem dX5_doWithdraw_1 : decode cX5_doWithdraw 1 = .ok (.iload_n 1, 1) := by decide +kernel
theorem dX5_doWithdraw_2 : decode cX5_doWithdraw 2 = .ok (.invokevirtual 74, 3) := by decide +kernel
theorem dX5_doWithdraw_5 : decode cX5_doWithdraw 5 = .ok (.aload_n 0, 1) := by decide +kernel
theorem dX5_doWithdraw_6 : decode cX5_doWithdraw 6 = .ok (.invokevirtual 103, 3) := by decide +kernel
theorem dX5_doWithdraw_9 : decode cX5_doWithdraw 9 = .ok (.ireturn, 1) := by decide +kernel
theorem dX5_withdraw_0 : decode cX5_withdraw 0 = .ok (.aload_n 0, 1) := by decide +kernel
theorem dX5_withdraw_1 : decode cX5_withdraw 1 = .ok (.aload_n 0, 1) := by decide +kernel
theorem dX5_withdraw_2 : decode cX5_withdraw 2 = .ok (.iload_n 1, 1) := by decide +kernel
theorem dX5_withdraw_3 : decode cX5_withdraw 3 = .ok (.invokevirtual 153, 3) := by decide +kernel
theorem dX5_withdraw_6 : decode cX5_withdraw 6 = .ok (.putfield 32, 3) := by decide +kernel
theorem dX5_withdraw_9 : decode cX5_withdraw 9 = .ok (.aload_n 0, 1) := by decide +kernel
theorem dX5_withdraw_10 : decode cX5_withdraw 10 = .ok (.getfield 32, 3) := by decide +kernel
theorem dX5_withdraw_13 : decode cX5_withdraw 13 = .ok (.ifCond .le 5, 3) := by decide +kernel
theorem dX5_withdraw_16 : decode cX5_withdraw 16 = .ok (.iconst 0, 1) := by decide +kernel
theorem dX5_withdraw_17 : decode cX5_withdraw 17 = .ok (.ireturn, 1) := by decide +kernel
theorem dX5_withdraw_18 : decode cX5_withdraw 18 = .ok (.aload_n 0, 1) := by decide +kernel
theorem dX5_withdraw_19 : decode cX5_withdraw 19 = .ok (.invokevirtual 112, 3) := by decide +kernel
theorem dX5_withdraw_22 : decode cX5_withdraw 22 = .ok (.aload_n 0, 1) := by decide +kernel
theorem dX5_withdraw_23 : decode cX5_withdraw 23 = .ok (.iload_n 1, 1) := by decide +kernel
theorem dX5_withdraw_24 : decode cX5_withdraw 24 = .ok (.invokevirtual 156, 3) := by decide +kernel
theorem dX5_withdraw_27 : decode cX5_withdraw 27 = .ok (.ireturn, 1) := by decide +kernel
theorem dX5_whyNoCommit_0 : decode cX5_whyNoCommit 0 = .ok (.iload_n 1, 1) := by decide +kernel
theorem dX5_whyNoCommit_1 : decode cX5_whyNoCommit 1 = .ok (.invokestatic 106, 3) := by decide +kernel
theorem dX5_whyNoCommit_4 : decode cX5_whyNoCommit 4 = .ok (.ifCond .ne 7, 3) := by decide +kernel
theorem dX5_whyNoCommit_7 : decode cX5_whyNoCommit 7 = .ok (.iconst 1, 1) := by decide +kernel
theorem dX5_whyNoCommit_8 : decode cX5_whyNoCommit 8 = .ok (.goto 16, 3) := by decide +kernel
theorem dX5_whyNoCommit_11 : decode cX5_whyNoCommit 11 = .ok (.aload_n 0, 1) := by decide +kernel
theorem dX5_whyNoCommit_12 : decode cX5_whyNoCommit 12 = .ok (.iload_n 1, 1) := by decide +kernel
theorem dX5_whyNoCommit_13 : decode cX5_whyNoCommit 13 = .ok (.invokevirtual 124, 3) := by decide +kernel
theorem dX5_whyNoCommit_16 : decode cX5_whyNoCommit 16 = .ok (.ifCond .eq 7, 3) := by decide +kernel
theorem dX5_whyNoCommit_19 : decode cX5_whyNoCommit 19 = .ok (.iconst 0, 1) := by decide +kernel
theorem dX5_whyNoCommit_20 : decode cX5_whyNoCommit 20 = .ok (.goto 4, 3) := by decide +kernel
theorem dX5_whyNoCommit_23 : decode cX5_whyNoCommit 23 = .ok (.iconst 2, 1) := by decide +kernel
theorem dX5_whyNoCommit_24 : decode cX5_whyNoCommit 24 = .ok (.ireturn, 1) := by decide +kernel
theorem dX5_doEnd_0 : decode cX5_doEnd 0 = .ok (.aload_n 0, 1) := by decide +kernel
theorem dX5_doEnd_1 : decode cX5_doEnd 1 = .ok (.iload_n 1, 1) := by decide +kernel
theorem dX5_doEnd_2 : decode cX5_doEnd 2 = .ok (.iconst 0, 1) := by decide +kernel
theorem dX5_doEnd_3 : decode cX5_doEnd 3 = .ok (.invokevirtual 40, 3) := by decide +kernel
theorem dX5_doEnd_6 : decode cX5_doEnd 6 = .ok (.iconst 2, 1) := by decide +kernel
theorem dX5_doEnd_7 : decode cX5_doEnd 7 = .ok (.if_icmp .ne 8, 3) := by decide +kernel
theorem dX5_doEnd_10 : decode cX5_doEnd 10 = .ok (.aload_n 0, 1) := by decide +kernel
theorem dX5_doEnd_11 : decode cX5_doEnd 11 = .ok (.iload_n 1, 1) := by decide +kernel
theorem dX5_doEnd_12 : decode cX5_doEnd 12 = .ok (.invokevirtual 74, 3) := by decide +kernel
theorem dX5_doEnd_15 : decode cX5_doEnd 15 = .ok (.aload_n 0, 1) := by decide +kernel
theorem dX5_doEnd_16 : decode cX5_doEnd 16 = .ok (.iload_n 1, 1) := by decide +kernel
theorem dX5_doEnd_17 : decode cX5_doEnd 17 = .ok (.invokevirtual 100, 3) := by decide +kernel
theorem dX5_doEnd_20 : decode cX5_doEnd 20 = .ok (.aload_n 0, 1) := by decide +kernel
theorem dX5_doEnd_21 : decode cX5_doEnd 21 = .ok (.iload_n 1, 1) := by decide +kernel
theorem dX5_doEnd_22 : decode cX5_doEnd 22 = .ok (.invokevirtual 28, 3) := by decide +kernel
theorem dX5_doEnd_25 : decode cX5_doEnd 25 = .ok (.aload_n 0, 1) := by decide +kernel
theorem dX5_doEnd_26 : decode cX5_doEnd 26 = .ok (.invokevirtual 103, 3) := by decide +kernel
theorem dX5_doEnd_29 : decode cX5_doEnd 29 = .ok (.ireturn, 1) := by decide +kernel
theorem dX5_commit_0 : decode cX5_commit 0 = .ok (.aload_n 0, 1) := by decide +kernel
theorem dX5_commit_1 : decode cX5_commit 1 = .ok (.aload_n 0, 1) := by decide +kernel
theorem dX5_commit_2 : decode cX5_commit 2 = .ok (.iload_n 1, 1) := by decide +kernel
theorem dX5_commit_3 : decode cX5_commit 3 = .ok (.invokevirtual 159, 3) := by decide +kernel
theorem dX5_commit_6 : decode cX5_commit 6 = .ok (.putfield 32, 3) := by decide +kernel
theorem dX5_commit_9 : decode cX5_commit 9 = .ok (.aload_n 0, 1) := by decide +kernel
theorem dX5_commit_10 : decode cX5_commit 10 = .ok (.getfield 32, 3) := by decide +kernel
theorem dX5_commit_13 : decode cX5_commit 13 = .ok (.ifCond .le 5, 3) := by decide +kernel
theorem dX5_commit_16 : decode cX5_commit 16 = .ok (.iconst 0, 1) := by decide +kernel
theorem dX5_commit_17 : decode cX5_commit 17 = .ok (.ireturn, 1) := by decide +kernel
theorem dX5_commit_18 : decode cX5_commit 18 = .ok (.aload_n 0, 1) := by decide +kernel
theorem dX5_commit_19 : decode cX5_commit 19 = .ok (.invokevirtual 112, 3) := by decide +kernel
theorem dX5_commit_22 : decode cX5_commit 22 = .ok (.aload_n 0, 1) := by decide +kernel
theorem dX5_commit_23 : decode cX5_commit 23 = .ok (.iload_n 1, 1) := by decide +kernel
theorem dX5_commit_24 : decode cX5_commit 24 = .ok (.invokevirtual 162, 3) := by decide +kernel
theorem dX5_commit_27 : decode cX5_commit 27 = .ok (.ireturn, 1) := by decide +kernel
theorem dX5_whyNoRollBack_0 : decode cX5_whyNoRollBack 0 = .ok (.iload_n 1, 1) := by decide +kernel
theorem dX5_whyNoRollBack_1 : decode cX5_whyNoRollBack 1 = .ok (.invokestatic 106, 3) := by decide +kernel
theorem dX5_whyNoRollBack_4 : decode cX5_whyNoRollBack 4 = .ok (.ifCond .ne 7, 3) := by decide +kernel
theorem dX5_whyNoRollBack_7 : decode cX5_whyNoRollBack 7 = .ok (.iconst 1, 1) := by decide +kernel
theorem dX5_whyNoRollBack_8 : decode cX5_whyNoRollBack 8 = .ok (.goto 17, 3) := by decide +kernel
theorem dX5_whyNoRollBack_11 : decode cX5_whyNoRollBack 11 = .ok (.aload_n 0, 1) := by decide +kernel
theorem dX5_whyNoRollBack_12 : decode cX5_whyNoRollBack 12 = .ok (.iload_n 1, 1) := by decide +kernel
theorem dX5_whyNoRollBack_13 : decode cX5_whyNoRollBack 13 = .ok (.iconst 0, 1) := by decide +kernel
theorem dX5_whyNoRollBack_14 : decode cX5_whyNoRollBack 14 = .ok (.invokevirtual 40, 3) := by decide +kernel
theorem dX5_whyNoRollBack_17 : decode cX5_whyNoRollBack 17 = .ok (.ifCond .ne 7, 3) := by decide +kernel
theorem dX5_whyNoRollBack_20 : decode cX5_whyNoRollBack 20 = .ok (.iconst 2, 1) := by decide +kernel
theorem dX5_whyNoRollBack_21 : decode cX5_whyNoRollBack 21 = .ok (.goto 4, 3) := by decide +kernel
theorem dX5_whyNoRollBack_24 : decode cX5_whyNoRollBack 24 = .ok (.iconst 0, 1) := by decide +kernel
theorem dX5_whyNoRollBack_25 : decode cX5_whyNoRollBack 25 = .ok (.ireturn, 1) := by decide +kernel
theorem dX5_rollBack_0 : decode cX5_rollBack 0 = .ok (.aload_n 0, 1) := by decide +kernel
theorem dX5_rollBack_1 : decode cX5_rollBack 1 = .ok (.aload_n 0, 1) := by decide +kernel
theorem dX5_rollBack_2 : decode cX5_rollBack 2 = .ok (.iload_n 1, 1) := by decide +kernel
theorem dX5_rollBack_3 : decode cX5_rollBack 3 = .ok (.invokevirtual 165, 3) := by decide +kernel
theorem dX5_rollBack_6 : decode cX5_rollBack 6 = .ok (.putfield 32, 3) := by decide +kernel
theorem dX5_rollBack_9 : decode cX5_rollBack 9 = .ok (.aload_n 0, 1) := by decide +kernel
theorem dX5_rollBack_10 : decode cX5_rollBack 10 = .ok (.getfield 32, 3) := by decide +kernel
theorem dX5_rollBack_13 : decode cX5_rollBack 13 = .ok (.ifCond .le 5, 3) := by decide +kernel
theorem dX5_rollBack_16 : decode cX5_rollBack 16 = .ok (.iconst 0, 1) := by decide +kernel
theorem dX5_rollBack_17 : decode cX5_rollBack 17 = .ok (.ireturn, 1) := by decide +kernel
theorem dX5_rollBack_18 : decode cX5_rollBack 18 = .ok (.aload_n 0, 1) := by decide +kernel
theorem dX5_rollBack_19 : decode cX5_rollBack 19 = .ok (.invokevirtual 112, 3) := by decide +kernel
theorem dX5_rollBack_22 : decode cX5_rollBack 22 = .ok (.aload_n 0, 1) := by decide +kernel
theorem dX5_rollBack_23 : decode cX5_rollBack 23 = .ok (.iload_n 1, 1) := by decide +kernel
theorem dX5_rollBack_24 : decode cX5_rollBack 24 = .ok (.invokevirtual 162, 3) := by decide +kernel
theorem dX5_rollBack_27 : decode cX5_rollBack 27 = .ok (.ireturn, 1) := by decide +kernel
theorem dX5_appendText_0 : decode cX5_appendText 0 = .ok (.aload_n 0, 1) := by decide +kernel
theorem dX5_appendText_1 : decode cX5_appendText 1 = .ok (.iload_n 1, 1) := by decide +kernel
theorem dX5_appendText_2 : decode cX5_appendText 2 = .ok (.bipush 32, 2) := by decide +kernel
theorem dX5_appendText_4 : decode cX5_appendText 4 = .ok (.bipush 126, 2) := by decide +kernel
theorem dX5_appendText_6 : decode cX5_appendText 6 = .ok (.invokestatic 36, 3) := by decide +kernel
theorem dX5_appendText_9 : decode cX5_appendText 9 = .ok (.ifCond .ne 7, 3) := by decide +kernel
theorem dX5_appendText_12 : decode cX5_appendText 12 = .ok (.iconst 1, 1) := by decide +kernel
theorem dX5_appendText_13 : decode cX5_appendText 13 = .ok (.goto 17, 3) := by decide +kernel
theorem dX5_appendText_16 : decode cX5_appendText 16 = .ok (.aload_n 0, 1) := by decide +kernel
theorem dX5_appendText_17 : decode cX5_appendText 17 = .ok (.getfield 168, 3) := by decide +kernel
theorem dX5_appendText_20 : decode cX5_appendText 20 = .ok (.bipush 80, 2) := by decide +kernel
theorem dX5_appendText_22 : decode cX5_appendText 22 = .ok (.if_icmp .ne 7, 3) := by decide +kernel
theorem dX5_appendText_25 : decode cX5_appendText 25 = .ok (.iconst 2, 1) := by decide +kernel
theorem dX5_appendText_26 : decode cX5_appendText 26 = .ok (.goto 4, 3) := by decide +kernel
theorem dX5_appendText_29 : decode cX5_appendText 29 = .ok (.iconst 0, 1) := by decide +kernel
theorem dX5_appendText_30 : decode cX5_appendText 30 = .ok (.putfield 32, 3) := by decide +kernel
theorem dX5_appendText_33 : decode cX5_appendText 33 = .ok (.aload_n 0, 1) := by decide +kernel
theorem dX5_appendText_34 : decode cX5_appendText 34 = .ok (.getfield 32, 3) := by decide +kernel
theorem dX5_appendText_37 : decode cX5_appendText 37 = .ok (.ifCond .le 5, 3) := by decide +kernel
theorem dX5_appendText_40 : decode cX5_appendText 40 = .ok (.iconst 0, 1) := by decide +kernel
theorem dX5_appendText_41 : decode cX5_appendText 41 = .ok (.ireturn, 1) := by decide +kernel
theorem dX5_appendText_42 : decode cX5_appendText 42 = .ok (.aload_n 0, 1) := by decide +kernel
theorem dX5_appendText_43 : decode cX5_appendText 43 = .ok (.getfield 19, 3) := by decide +kernel
theorem dX5_appendText_46 : decode cX5_appendText 46 = .ok (.aload_n 0, 1) := by decide +kernel
theorem dX5_appendText_47 : decode cX5_appendText 47 = .ok (.getfield 168, 3) := by decide +kernel
theorem dX5_appendText_50 : decode cX5_appendText 50 = .ok (.iload_n 1, 1) := by decide +kernel
theorem dX5_appendText_51 : decode cX5_appendText 51 = .ok (.iastore, 1) := by decide +kernel
theorem dX5_appendText_52 : decode cX5_appendText 52 = .ok (.aload_n 0, 1) := by decide +kernel
theorem dX5_appendText_53 : decode cX5_appendText 53 = .ok (.dup, 1) := by decide +kernel
theorem dX5_appendText_54 : decode cX5_appendText 54 = .ok (.getfield 168, 3) := by decide +kernel
theorem dX5_appendText_57 : decode cX5_appendText 57 = .ok (.iconst 1, 1) := by decide +kernel
theorem dX5_appendText_58 : decode cX5_appendText 58 = .ok (.iadd, 1) := by decide +kernel
theorem dX5_appendText_59 : decode cX5_appendText 59 = .ok (.putfield 168, 3) := by decide +kernel
theorem dX5_appendText_62 : decode cX5_appendText 62 = .ok (.aload_n 0, 1) := by decide +kernel
theorem dX5_appendText_63 : decode cX5_appendText 63 = .ok (.getfield 168, 3) := by decide +kernel
theorem dX5_appendText_66 : decode cX5_appendText 66 = .ok (.ireturn, 1) := by decide +kernel
theorem dX5_clearText_0 : decode cX5_clearText 0 = .ok (.aload_n 0, 1) := by decide +kernel
theorem dX5_clearText_1 : decode cX5_clearText 1 = .ok (.iconst 0, 1) := by decide +kernel
theorem dX5_clearText_2 : decode cX5_clearText 2 = .ok (.putfield 32, 3) := by decide +kernel
theorem dX5_clearText_5 : decode cX5_clearText 5 = .ok (.aload_n 0, 1) := by decide +kernel
theorem dX5_clearText_6 : decode cX5_clearText 6 = .ok (.getfield 168, 3) := by decide +kernel
theorem dX5_clearText_9 : decode cX5_clearText 9 = .ok (.istore_n 1, 1) := by decide +kernel
theorem dX5_clearText_10 : decode cX5_clearText 10 = .ok (.aload_n 0, 1) := by decide +kernel
theorem dX5_clearText_11 : decode cX5_clearText 11 = .ok (.iconst 0, 1) := by decide +kernel
theorem dX5_clearText_12 : decode cX5_clearText 12 = .ok (.putfield 168, 3) := by decide +kernel
theorem dX5_clearText_15 : decode cX5_clearText 15 = .ok (.iload_n 1, 1) := by decide +kernel
theorem dX5_clearText_16 : decode cX5_clearText 16 = .ok (.ireturn, 1) := by decide +kernel
theorem dX5_isAt_0 : decode cX5_isAt 0 = .ok (.iload_n 1, 1) := by decide +kernel
theorem dX5_isAt_1 : decode cX5_isAt 1 = .ok (.aload_n 0, 1) := by decide +kernel
theorem dX5_isAt_2 : decode cX5_isAt 2 = .ok (.getfield 168, 3) := by decide +kernel
theorem dX5_isAt_5 : decode cX5_isAt 5 = .ok (.if_icmp .ge 21, 3) := by decide +kernel
theorem dX5_isAt_8 : decode cX5_isAt 8 = .ok (.aload_n 0, 1) := by decide +kernel
theorem dX5_isAt_9 : decode cX5_isAt 9 = .ok (.getfield 19, 3) := by decide +kernel
theorem dX5_isAt_12 : decode cX5_isAt 12 = .ok (.iload_n 1, 1) := by decide +kernel
theorem dX5_isAt_13 : decode cX5_isAt 13 = .ok (.iaload, 1) := by decide +kernel
theorem dX5_isAt_14 : decode cX5_isAt 14 = .ok (.iload_n 2, 1) := by decide +kernel
theorem dX5_isAt_15 : decode cX5_isAt 15 = .ok (.iload_n 3, 1) := by decide +kernel
theorem dX5_isAt_16 : decode cX5_isAt 16 = .ok (.invokestatic 36, 3) := by decide +kernel
theorem dX5_isAt_19 : decode cX5_isAt 19 = .ok (.ifCond .eq 7, 3) := by decide +kernel
theorem dX5_isAt_22 : decode cX5_isAt 22 = .ok (.iconst 1, 1) := by decide +kernel
theorem dX5_isAt_23 : decode cX5_isAt 23 = .ok (.goto 4, 3) := by decide +kernel
theorem dX5_isAt_26 : decode cX5_isAt 26 = .ok (.iconst 0, 1) := by decide +kernel
theorem dX5_isAt_27 : decode cX5_isAt 27 = .ok (.ireturn, 1) := by decide +kernel
theorem dX5_readAmount_0 : decode cX5_readAmount 0 = .ok (.iload_n 1, 1) := by decide +kernel
theorem dX5_readAmount_1 : decode cX5_readAmount 1 = .ok (.istore_n 2, 1) := by decide +kernel
theorem dX5_readAmount_2 : decode cX5_readAmount 2 = .ok (.aload_n 0, 1) := by decide +kernel
theorem dX5_readAmount_3 : decode cX5_readAmount 3 = .ok (.iconst 0, 1) := by decide +kernel
theorem dX5_readAmount_4 : decode cX5_readAmount 4 = .ok (.putfield 171, 3) := by decide +kernel
theorem dX5_readAmount_7 : decode cX5_readAmount 7 = .ok (.aload_n 0, 1) := by decide +kernel
theorem dX5_readAmount_8 : decode cX5_readAmount 8 = .ok (.iload_n 2, 1) := by decide +kernel
theorem dX5_readAmount_9 : decode cX5_readAmount 9 = .ok (.aload_n 0, 1) := by decide +kernel
theorem dX5_readAmount_10 : decode cX5_readAmount 10 = .ok (.getfield 171, 3) := by decide +kernel
theorem dX5_readAmount_13 : decode cX5_readAmount 13 = .ok (.ifCond .ne 8, 3) := by decide +kernel
theorem dX5_readAmount_16 : decode cX5_readAmount 16 = .ok (.bipush 49, 2) := by decide +kernel
theorem dX5_readAmount_18 : decode cX5_readAmount 18 = .ok (.goto 5, 3) := by decide +kernel
theorem dX5_readAmount_21 : decode cX5_readAmount 21 = .ok (.bipush 48, 2) := by decide +kernel
theorem dX5_readAmount_23 : decode cX5_readAmount 23 = .ok (.bipush 57, 2) := by decide +kernel
theorem dX5_readAmount_25 : decode cX5_readAmount 25 = .ok (.invokevirtual 174, 3) := by decide +kernel
theorem dX5_readAmount_28 : decode cX5_readAmount 28 = .ok (.ifCond .eq 53, 3) := by decide +kernel
theorem dX5_readAmount_31 : decode cX5_readAmount 31 = .ok (.bipush 10, 2) := by decide +kernel
theorem dX5_readAmount_33 : decode cX5_readAmount 33 = .ok (.aload_n 0, 1) := by decide +kernel
theorem dX5_readAmount_34 : decode cX5_readAmount 34 = .ok (.getfield 171, 3) := by decide +kernel
theorem dX5_readAmount_37 : decode cX5_readAmount 37 = .ok (.imul, 1) := by decide +kernel
theorem dX5_readAmount_38 : decode cX5_readAmount 38 = .ok (.aload_n 0, 1) := by decide +kernel
theorem dX5_readAmount_39 : decode cX5_readAmount 39 = .ok (.getfield 19, 3) := by decide +kernel
theorem dX5_readAmount_42 : decode cX5_readAmount 42 = .ok (.iload_n 2, 1) := by decide +kernel
theorem dX5_readAmount_43 : decode cX5_readAmount 43 = .ok (.iaload, 1) := by decide +kernel
theorem dX5_readAmount_44 : decode cX5_readAmount 44 = .ok (.iadd, 1) := by decide +kernel
theorem dX5_readAmount_45 : decode cX5_readAmount 45 = .ok (.bipush 48, 2) := by decide +kernel
theorem dX5_readAmount_47 : decode cX5_readAmount 47 = .ok (.isub, 1) := by decide +kernel
theorem dX5_readAmount_48 : decode cX5_readAmount 48 = .ok (.sipush 1000, 3) := by decide +kernel
theorem dX5_readAmount_51 : decode cX5_readAmount 51 = .ok (.if_icmp .gt 30, 3) := by decide +kernel
theorem dX5_readAmount_54 : decode cX5_readAmount 54 = .ok (.aload_n 0, 1) := by decide +kernel
theorem dX5_readAmount_55 : decode cX5_readAmount 55 = .ok (.bipush 10, 2) := by decide +kernel
theorem dX5_readAmount_57 : decode cX5_readAmount 57 = .ok (.aload_n 0, 1) := by decide +kernel
theorem dX5_readAmount_58 : decode cX5_readAmount 58 = .ok (.getfield 171, 3) := by decide +kernel
theorem dX5_readAmount_61 : decode cX5_readAmount 61 = .ok (.imul, 1) := by decide +kernel
theorem dX5_readAmount_62 : decode cX5_readAmount 62 = .ok (.aload_n 0, 1) := by decide +kernel
theorem dX5_readAmount_63 : decode cX5_readAmount 63 = .ok (.getfield 19, 3) := by decide +kernel
theorem dX5_readAmount_66 : decode cX5_readAmount 66 = .ok (.iload_n 2, 1) := by decide +kernel
theorem dX5_readAmount_67 : decode cX5_readAmount 67 = .ok (.iaload, 1) := by decide +kernel
theorem dX5_readAmount_68 : decode cX5_readAmount 68 = .ok (.iadd, 1) := by decide +kernel
theorem dX5_readAmount_69 : decode cX5_readAmount 69 = .ok (.bipush 48, 2) := by decide +kernel
theorem dX5_readAmount_71 : decode cX5_readAmount 71 = .ok (.isub, 1) := by decide +kernel
theorem dX5_readAmount_72 : decode cX5_readAmount 72 = .ok (.putfield 171, 3) := by decide +kernel
theorem dX5_readAmount_75 : decode cX5_readAmount 75 = .ok (.iinc 2 1, 3) := by decide +kernel
theorem dX5_readAmount_78 : decode cX5_readAmount 78 = .ok (.goto (-71), 3) := by decide +kernel
theorem dX5_readAmount_81 : decode cX5_readAmount 81 = .ok (.aload_n 0, 1) := by decide +kernel
theorem dX5_readAmount_82 : decode cX5_readAmount 82 = .ok (.getfield 171, 3) := by decide +kernel
theorem dX5_readAmount_85 : decode cX5_readAmount 85 = .ok (.ifCond .ne 9, 3) := by decide +kernel
theorem dX5_readAmount_88 : decode cX5_readAmount 88 = .ok (.iconst (-1), 1) := by decide +kernel
theorem dX5_readAmount_89 : decode cX5_readAmount 89 = .ok (.iload_n 2, 1) := by decide +kernel
theorem dX5_readAmount_90 : decode cX5_readAmount 90 = .ok (.isub, 1) := by decide +kernel
theorem dX5_readAmount_91 : decode cX5_readAmount 91 = .ok (.goto 4, 3) := by decide +kernel
theorem dX5_readAmount_94 : decode cX5_readAmount 94 = .ok (.iload_n 2, 1) := by decide +kernel
theorem dX5_readAmount_95 : decode cX5_readAmount 95 = .ok (.ireturn, 1) := by decide +kernel
theorem dX5_readCommand_0 : decode cX5_readCommand 0 = .ok (.aload_n 0, 1) := by decide +kernel
theorem dX5_readCommand_1 : decode cX5_readCommand 1 = .ok (.iload_n 1, 1) := by decide +kernel
theorem dX5_readCommand_2 : decode cX5_readCommand 2 = .ok (.aload_n 0, 1) := by decide +kernel
theorem dX5_readCommand_3 : decode cX5_readCommand 3 = .ok (.getfield 168, 3) := by decide +kernel
theorem dX5_readCommand_6 : decode cX5_readCommand 6 = .ok (.if_icmp .ge 12, 3) := by decide +kernel
theorem dX5_readCommand_9 : decode cX5_readCommand 9 = .ok (.aload_n 0, 1) := by decide +kernel
theorem dX5_readCommand_10 : decode cX5_readCommand 10 = .ok (.getfield 19, 3) := by decide +kernel
theorem dX5_readCommand_13 : decode cX5_readCommand 13 = .ok (.iload_n 1, 1) := by decide +kernel
theorem dX5_readCommand_14 : decode cX5_readCommand 14 = .ok (.iaload, 1) := by decide +kernel
theorem dX5_readCommand_15 : decode cX5_readCommand 15 = .ok (.goto 4, 3) := by decide +kernel
theorem dX5_readCommand_18 : decode cX5_readCommand 18 = .ok (.iconst 0, 1) := by decide +kernel
theorem dX5_readCommand_19 : decode cX5_readCommand 19 = .ok (.putfield 177, 3) := by decide +kernel
theorem dX5_readCommand_22 : decode cX5_readCommand 22 = .ok (.aload_n 0, 1) := by decide +kernel
theorem dX5_readCommand_23 : decode cX5_readCommand 23 = .ok (.getfield 177, 3) := by decide +kernel
theorem dX5_readCommand_26 : decode cX5_readCommand 26 = .ok (.bipush 98, 2) := by decide +kernel
theorem dX5_readCommand_28 : decode cX5_readCommand 28 = .ok (.if_icmp .eq 57, 3) := by decide +kernel
theorem dX5_readCommand_31 : decode cX5_readCommand 31 = .ok (.aload_n 0, 1) := by decide +kernel
theorem dX5_readCommand_32 : decode cX5_readCommand 32 = .ok (.getfield 177, 3) := by decide +kernel
theorem dX5_readCommand_35 : decode cX5_readCommand 35 = .ok (.bipush 115, 2) := by decide +kernel
theorem dX5_readCommand_37 : decode cX5_readCommand 37 = .ok (.if_icmp .eq 48, 3) := by decide +kernel
theorem dX5_readCommand_40 : decode cX5_readCommand 40 = .ok (.aload_n 0, 1) := by decide +kernel
theorem dX5_readCommand_41 : decode cX5_readCommand 41 = .ok (.getfield 177, 3) := by decide +kernel
theorem dX5_readCommand_44 : decode cX5_readCommand 44 = .ok (.bipush 120, 2) := by decide +kernel
theorem dX5_readCommand_46 : decode cX5_readCommand 46 = .ok (.if_icmp .eq 39, 3) := by decide +kernel
theorem dX5_readCommand_49 : decode cX5_readCommand 49 = .ok (.aload_n 0, 1) := by decide +kernel
theorem dX5_readCommand_50 : decode cX5_readCommand 50 = .ok (.getfield 177, 3) := by decide +kernel
theorem dX5_readCommand_53 : decode cX5_readCommand 53 = .ok (.bipush 119, 2) := by decide +kernel
theorem dX5_readCommand_55 : decode cX5_readCommand 55 = .ok (.if_icmp .eq 30, 3) := by decide +kernel
theorem dX5_readCommand_58 : decode cX5_readCommand 58 = .ok (.aload_n 0, 1) := by decide +kernel
theorem dX5_readCommand_59 : decode cX5_readCommand 59 = .ok (.getfield 177, 3) := by decide +kernel
theorem dX5_readCommand_62 : decode cX5_readCommand 62 = .ok (.bipush 99, 2) := by decide +kernel
theorem dX5_readCommand_64 : decode cX5_readCommand 64 = .ok (.if_icmp .eq 21, 3) := by decide +kernel
theorem dX5_readCommand_67 : decode cX5_readCommand 67 = .ok (.aload_n 0, 1) := by decide +kernel
theorem dX5_readCommand_68 : decode cX5_readCommand 68 = .ok (.getfield 177, 3) := by decide +kernel
theorem dX5_readCommand_71 : decode cX5_readCommand 71 = .ok (.bipush 97, 2) := by decide +kernel
theorem dX5_readCommand_73 : decode cX5_readCommand 73 = .ok (.if_icmp .eq 12, 3) := by decide +kernel
theorem dX5_readCommand_76 : decode cX5_readCommand 76 = .ok (.aload_n 0, 1) := by decide +kernel
theorem dX5_readCommand_77 : decode cX5_readCommand 77 = .ok (.getfield 177, 3) := by decide +kernel
theorem dX5_readCommand_80 : decode cX5_readCommand 80 = .ok (.bipush 107, 2) := by decide +kernel
theorem dX5_readCommand_82 : decode cX5_readCommand 82 = .ok (.if_icmp .ne 7, 3) := by decide +kernel
theorem dX5_readCommand_85 : decode cX5_readCommand 85 = .ok (.iconst 1, 1) := by decide +kernel
theorem dX5_readCommand_86 : decode cX5_readCommand 86 = .ok (.goto 4, 3) := by decide +kernel
theorem dX5_readCommand_89 : decode cX5_readCommand 89 = .ok (.iconst 0, 1) := by decide +kernel
theorem dX5_readCommand_90 : decode cX5_readCommand 90 = .ok (.istore_n 2, 1) := by decide +kernel
theorem dX5_readCommand_91 : decode cX5_readCommand 91 = .ok (.iload_n 2, 1) := by decide +kernel
theorem dX5_readCommand_92 : decode cX5_readCommand 92 = .ok (.ifCond .ne 7, 3) := by decide +kernel
theorem dX5_readCommand_95 : decode cX5_readCommand 95 = .ok (.iconst (-1), 1) := by decide +kernel
theorem dX5_readCommand_96 : decode cX5_readCommand 96 = .ok (.iload_n 1, 1) := by decide +kernel
theorem dX5_readCommand_97 : decode cX5_readCommand 97 = .ok (.isub, 1) := by decide +kernel
theorem dX5_readCommand_98 : decode cX5_readCommand 98 = .ok (.ireturn, 1) := by decide +kernel
theorem dX5_readCommand_99 : decode cX5_readCommand 99 = .ok (.aload_n 0, 1) := by decide +kernel
theorem dX5_readCommand_100 : decode cX5_readCommand 100 = .ok (.iload_n 1, 1) := by decide +kernel
theorem dX5_readCommand_101 : decode cX5_readCommand 101 = .ok (.iconst 1, 1) := by decide +kernel
theorem dX5_readCommand_102 : decode cX5_readCommand 102 = .ok (.iadd, 1) := by decide +kernel
theorem dX5_readCommand_103 : decode cX5_readCommand 103 = .ok (.bipush 48, 2) := by decide +kernel
theorem dX5_readCommand_105 : decode cX5_readCommand 105 = .ok (.bipush 55, 2) := by decide +kernel
theorem dX5_readCommand_107 : decode cX5_readCommand 107 = .ok (.invokevirtual 174, 3) := by decide +kernel
theorem dX5_readCommand_110 : decode cX5_readCommand 110 = .ok (.ifCond .ne 8, 3) := by decide +kernel
theorem dX5_readCommand_113 : decode cX5_readCommand 113 = .ok (.bipush (-2), 2) := by decide +kernel
theorem dX5_readCommand_115 : decode cX5_readCommand 115 = .ok (.iload_n 1, 1) := by decide +kernel
theorem dX5_readCommand_116 : decode cX5_readCommand 116 = .ok (.isub, 1) := by decide +kernel
theorem dX5_readCommand_117 : decode cX5_readCommand 117 = .ok (.ireturn, 1) := by decide +kernel
theorem dX5_readCommand_118 : decode cX5_readCommand 118 = .ok (.aload_n 0, 1) := by decide +kernel
theorem dX5_readCommand_119 : decode cX5_readCommand 119 = .ok (.aload_n 0, 1) := by decide +kernel
theorem dX5_readCommand_120 : decode cX5_readCommand 120 = .ok (.getfield 19, 3) := by decide +kernel
theorem dX5_readCommand_123 : decode cX5_readCommand 123 = .ok (.iload_n 1, 1) := by decide +kernel
theorem dX5_readCommand_124 : decode cX5_readCommand 124 = .ok (.iconst 1, 1) := by decide +kernel
theorem dX5_readCommand_125 : decode cX5_readCommand 125 = .ok (.iadd, 1) := by decide +kernel
theorem dX5_readCommand_126 : decode cX5_readCommand 126 = .ok (.iaload, 1) := by decide +kernel
theorem dX5_readCommand_127 : decode cX5_readCommand 127 = .ok (.bipush 48, 2) := by decide +kernel
theorem dX5_readCommand_129 : decode cX5_readCommand 129 = .ok (.isub, 1) := by decide +kernel
theorem dX5_readCommand_130 : decode cX5_readCommand 130 = .ok (.putfield 180, 3) := by decide +kernel
theorem dX5_readCommand_133 : decode cX5_readCommand 133 = .ok (.aload_n 0, 1) := by decide +kernel
theorem dX5_readCommand_134 : decode cX5_readCommand 134 = .ok (.getfield 177, 3) := by decide +kernel
theorem dX5_readCommand_137 : decode cX5_readCommand 137 = .ok (.bipush 115, 2) := by decide +kernel
theorem dX5_readCommand_139 : decode cX5_readCommand 139 = .ok (.if_icmp .eq 12, 3) := by decide +kernel
theorem dX5_readCommand_142 : decode cX5_readCommand 142 = .ok (.aload_n 0, 1) := by decide +kernel
theorem dX5_readCommand_143 : decode cX5_readCommand 143 = .ok (.getfield 177, 3) := by decide +kernel
theorem dX5_readCommand_146 : decode cX5_readCommand 146 = .ok (.bipush 120, 2) := by decide +kernel
theorem dX5_readCommand_148 : decode cX5_readCommand 148 = .ok (.if_icmp .ne 41, 3) := by decide +kernel
theorem dX5_readCommand_151 : decode cX5_readCommand 151 = .ok (.aload_n 0, 1) := by decide +kernel
theorem dX5_readCommand_152 : decode cX5_readCommand 152 = .ok (.iload_n 1, 1) := by decide +kernel
theorem dX5_readCommand_153 : decode cX5_readCommand 153 = .ok (.iconst 2, 1) := by decide +kernel
theorem dX5_readCommand_154 : decode cX5_readCommand 154 = .ok (.iadd, 1) := by decide +kernel
theorem dX5_readCommand_155 : decode cX5_readCommand 155 = .ok (.bipush 48, 2) := by decide +kernel
theorem dX5_readCommand_157 : decode cX5_readCommand 157 = .ok (.bipush 57, 2) := by decide +kernel
theorem dX5_readCommand_159 : decode cX5_readCommand 159 = .ok (.invokevirtual 174, 3) := by decide +kernel
theorem dX5_readCommand_162 : decode cX5_readCommand 162 = .ok (.ifCond .ne 8, 3) := by decide +kernel
theorem dX5_readCommand_165 : decode cX5_readCommand 165 = .ok (.bipush (-3), 2) := by decide +kernel
theorem dX5_readCommand_167 : decode cX5_readCommand 167 = .ok (.iload_n 1, 1) := by decide +kernel
theorem dX5_readCommand_168 : decode cX5_readCommand 168 = .ok (.isub, 1) := by decide +kernel
theorem dX5_readCommand_169 : decode cX5_readCommand 169 = .ok (.ireturn, 1) := by decide +kernel
theorem dX5_readCommand_170 : decode cX5_readCommand 170 = .ok (.aload_n 0, 1) := by decide +kernel
theorem dX5_readCommand_171 : decode cX5_readCommand 171 = .ok (.aload_n 0, 1) := by decide +kernel
theorem dX5_readCommand_172 : decode cX5_readCommand 172 = .ok (.getfield 19, 3) := by decide +kernel
theorem dX5_readCommand_175 : decode cX5_readCommand 175 = .ok (.iload_n 1, 1) := by decide +kernel
theorem dX5_readCommand_176 : decode cX5_readCommand 176 = .ok (.iconst 2, 1) := by decide +kernel
theorem dX5_readCommand_177 : decode cX5_readCommand 177 = .ok (.iadd, 1) := by decide +kernel
theorem dX5_readCommand_178 : decode cX5_readCommand 178 = .ok (.iaload, 1) := by decide +kernel
theorem dX5_readCommand_179 : decode cX5_readCommand 179 = .ok (.bipush 48, 2) := by decide +kernel
theorem dX5_readCommand_181 : decode cX5_readCommand 181 = .ok (.isub, 1) := by decide +kernel
theorem dX5_readCommand_182 : decode cX5_readCommand 182 = .ok (.putfield 171, 3) := by decide +kernel
theorem dX5_readCommand_185 : decode cX5_readCommand 185 = .ok (.iload_n 1, 1) := by decide +kernel
theorem dX5_readCommand_186 : decode cX5_readCommand 186 = .ok (.iconst 3, 1) := by decide +kernel
theorem dX5_readCommand_187 : decode cX5_readCommand 187 = .ok (.iadd, 1) := by decide +kernel
theorem dX5_readCommand_188 : decode cX5_readCommand 188 = .ok (.ireturn, 1) := by decide +kernel
theorem dX5_readCommand_189 : decode cX5_readCommand 189 = .ok (.aload_n 0, 1) := by decide +kernel
theorem dX5_readCommand_190 : decode cX5_readCommand 190 = .ok (.getfield 177, 3) := by decide +kernel
theorem dX5_readCommand_193 : decode cX5_readCommand 193 = .ok (.bipush 119, 2) := by decide +kernel
theorem dX5_readCommand_195 : decode cX5_readCommand 195 = .ok (.if_icmp .ne 32, 3) := by decide +kernel
theorem dX5_readCommand_198 : decode cX5_readCommand 198 = .ok (.aload_n 0, 1) := by decide +kernel
theorem dX5_readCommand_199 : decode cX5_readCommand 199 = .ok (.iload_n 1, 1) := by decide +kernel
theorem dX5_readCommand_200 : decode cX5_readCommand 200 = .ok (.iconst 2, 1) := by decide +kernel
theorem dX5_readCommand_201 : decode cX5_readCommand 201 = .ok (.iadd, 1) := by decide +kernel
theorem dX5_readCommand_202 : decode cX5_readCommand 202 = .ok (.bipush 44, 2) := by decide +kernel
theorem dX5_readCommand_204 : decode cX5_readCommand 204 = .ok (.bipush 44, 2) := by decide +kernel
theorem dX5_readCommand_206 : decode cX5_readCommand 206 = .ok (.invokevirtual 174, 3) := by decide +kernel
theorem dX5_readCommand_209 : decode cX5_readCommand 209 = .ok (.ifCond .eq 13, 3) := by decide +kernel
theorem dX5_readCommand_212 : decode cX5_readCommand 212 = .ok (.aload_n 0, 1) := by decide +kernel
theorem dX5_readCommand_213 : decode cX5_readCommand 213 = .ok (.iload_n 1, 1) := by decide +kernel
theorem dX5_readCommand_214 : decode cX5_readCommand 214 = .ok (.iconst 3, 1) := by decide +kernel
theorem dX5_readCommand_215 : decode cX5_readCommand 215 = .ok (.iadd, 1) := by decide +kernel
theorem dX5_readCommand_216 : decode cX5_readCommand 216 = .ok (.invokevirtual 183, 3) := by decide +kernel
theorem dX5_readCommand_219 : decode cX5_readCommand 219 = .ok (.goto 7, 3) := by decide +kernel
theorem dX5_readCommand_222 : decode cX5_readCommand 222 = .ok (.bipush (-3), 2) := by decide +kernel
theorem dX5_readCommand_224 : decode cX5_readCommand 224 = .ok (.iload_n 1, 1) := by decide +kernel
theorem dX5_readCommand_225 : decode cX5_readCommand 225 = .ok (.isub, 1) := by decide +kernel
theorem dX5_readCommand_226 : decode cX5_readCommand 226 = .ok (.ireturn, 1) := by decide +kernel
theorem dX5_readCommand_227 : decode cX5_readCommand 227 = .ok (.iload_n 1, 1) := by decide +kernel
theorem dX5_readCommand_228 : decode cX5_readCommand 228 = .ok (.iconst 2, 1) := by decide +kernel
theorem dX5_readCommand_229 : decode cX5_readCommand 229 = .ok (.iadd, 1) := by decide +kernel
theorem dX5_readCommand_230 : decode cX5_readCommand 230 = .ok (.ireturn, 1) := by decide +kernel
theorem dX5_findError_0 : decode cX5_findError 0 = .ok (.iconst 0, 1) := by decide +kernel
theorem dX5_findError_1 : decode cX5_findError 1 = .ok (.istore_n 1, 1) := by decide +kernel
theorem dX5_findError_2 : decode cX5_findError 2 = .ok (.aload_n 0, 1) := by decide +kernel
theorem dX5_findError_3 : decode cX5_findError 3 = .ok (.iload_n 1, 1) := by decide +kernel
theorem dX5_findError_4 : decode cX5_findError 4 = .ok (.invokevirtual 186, 3) := by decide +kernel
theorem dX5_findError_7 : decode cX5_findError 7 = .ok (.istore_n 1, 1) := by decide +kernel
theorem dX5_findError_8 : decode cX5_findError 8 = .ok (.iload_n 1, 1) := by decide +kernel
theorem dX5_findError_9 : decode cX5_findError 9 = .ok (.ifCond .ge 7, 3) := by decide +kernel
theorem dX5_findError_12 : decode cX5_findError 12 = .ok (.iconst (-1), 1) := by decide +kernel
theorem dX5_findError_13 : decode cX5_findError 13 = .ok (.iload_n 1, 1) := by decide +kernel
theorem dX5_findError_14 : decode cX5_findError 14 = .ok (.isub, 1) := by decide +kernel
theorem dX5_findError_15 : decode cX5_findError 15 = .ok (.ireturn, 1) := by decide +kernel
theorem dX5_findError_16 : decode cX5_findError 16 = .ok (.iload_n 1, 1) := by decide +kernel
theorem dX5_findError_17 : decode cX5_findError 17 = .ok (.aload_n 0, 1) := by decide +kernel
theorem dX5_findError_18 : decode cX5_findError 18 = .ok (.getfield 168, 3) := by decide +kernel
theorem dX5_findError_21 : decode cX5_findError 21 = .ok (.if_icmp .ne 5, 3) := by decide +kernel
theorem dX5_findError_24 : decode cX5_findError 24 = .ok (.iconst (-1), 1) := by decide +kernel
theorem dX5_findError_25 : decode cX5_findError 25 = .ok (.ireturn, 1) := by decide +kernel
theorem dX5_findError_26 : decode cX5_findError 26 = .ok (.aload_n 0, 1) := by decide +kernel
theorem dX5_findError_27 : decode cX5_findError 27 = .ok (.getfield 19, 3) := by decide +kernel
theorem dX5_findError_30 : decode cX5_findError 30 = .ok (.iload_n 1, 1) := by decide +kernel
theorem dX5_findError_31 : decode cX5_findError 31 = .ok (.iaload, 1) := by decide +kernel
theorem dX5_findError_32 : decode cX5_findError 32 = .ok (.bipush 59, 2) := by decide +kernel
theorem dX5_findError_34 : decode cX5_findError 34 = .ok (.if_icmp .eq 5, 3) := by decide +kernel
theorem dX5_findError_37 : decode cX5_findError 37 = .ok (.iload_n 1, 1) := by decide +kernel
theorem dX5_findError_38 : decode cX5_findError 38 = .ok (.ireturn, 1) := by decide +kernel
theorem dX5_findError_39 : decode cX5_findError 39 = .ok (.iinc 1 1, 3) := by decide +kernel
theorem dX5_findError_42 : decode cX5_findError 42 = .ok (.goto (-40), 3) := by decide +kernel
theorem dX5_errorPosition_0 : decode cX5_errorPosition 0 = .ok (.aload_n 0, 1) := by decide +kernel
theorem dX5_errorPosition_1 : decode cX5_errorPosition 1 = .ok (.iconst 0, 1) := by decide +kernel
theorem dX5_errorPosition_2 : decode cX5_errorPosition 2 = .ok (.putfield 32, 3) := by decide +kernel
theorem dX5_errorPosition_5 : decode cX5_errorPosition 5 = .ok (.aload_n 0, 1) := by decide +kernel
theorem dX5_errorPosition_6 : decode cX5_errorPosition 6 = .ok (.invokevirtual 189, 3) := by decide +kernel
theorem dX5_errorPosition_9 : decode cX5_errorPosition 9 = .ok (.ireturn, 1) := by decide +kernel
theorem dX5_whyNoCommand_0 : decode cX5_whyNoCommand 0 = .ok (.aload_n 0, 1) := by decide +kernel
theorem dX5_whyNoCommand_1 : decode cX5_whyNoCommand 1 = .ok (.getfield 177, 3) := by decide +kernel
theorem dX5_whyNoCommand_4 : decode cX5_whyNoCommand 4 = .ok (.lookupswitch 128 #[(97, 119), (98, 60), (99, 110), (115, 69), (119, 97), (120, 83)], 60) := by decide +kernel
theorem dX5_whyNoCommand_64 : decode cX5_whyNoCommand 64 = .ok (.aload_n 0, 1) := by decide +kernel
theorem dX5_whyNoCommand_65 : decode cX5_whyNoCommand 65 = .ok (.aload_n 0, 1) := by decide +kernel
theorem dX5_whyNoCommand_66 : decode cX5_whyNoCommand 66 = .ok (.getfield 180, 3) := by decide +kernel
theorem dX5_whyNoCommand_69 : decode cX5_whyNoCommand 69 = .ok (.invokevirtual 109, 3) := by decide +kernel
theorem dX5_whyNoCommand_72 : decode cX5_whyNoCommand 72 = .ok (.ireturn, 1) := by decide +kernel
theorem dX5_whyNoCommand_73 : decode cX5_whyNoCommand 73 = .ok (.aload_n 0, 1) := by decide +kernel
theorem dX5_whyNoCommand_74 : decode cX5_whyNoCommand 74 = .ok (.aload_n 0, 1) := by decide +kernel
theorem dX5_whyNoCommand_75 : decode cX5_whyNoCommand 75 = .ok (.getfield 180, 3) := by decide +kernel
theorem dX5_whyNoCommand_78 : decode cX5_whyNoCommand 78 = .ok (.aload_n 0, 1) := by decide +kernel
theorem dX5_whyNoCommand_79 : decode cX5_whyNoCommand 79 = .ok (.getfield 171, 3) := by decide +kernel
theorem dX5_whyNoCommand_82 : decode cX5_whyNoCommand 82 = .ok (.iconst 1, 1) := by decide +kernel
theorem dX5_whyNoCommand_83 : decode cX5_whyNoCommand 83 = .ok (.invokevirtual 140, 3) := by decide +kernel
theorem dX5_whyNoCommand_86 : decode cX5_whyNoCommand 86 = .ok (.ireturn, 1) := by decide +kernel
theorem dX5_whyNoCommand_87 : decode cX5_whyNoCommand 87 = .ok (.aload_n 0, 1) := by decide +kernel
theorem dX5_whyNoCommand_88 : decode cX5_whyNoCommand 88 = .ok (.aload_n 0, 1) := by decide +kernel
theorem dX5_whyNoCommand_89 : decode cX5_whyNoCommand 89 = .ok (.getfield 180, 3) := by decide +kernel
theorem dX5_whyNoCommand_92 : decode cX5_whyNoCommand 92 = .ok (.aload_n 0, 1) := by decide +kernel
theorem dX5_whyNoCommand_93 : decode cX5_whyNoCommand 93 = .ok (.getfield 171, 3) := by decide +kernel
theorem dX5_whyNoCommand_96 : decode cX5_whyNoCommand 96 = .ok (.iconst 2, 1) := by decide +kernel
theorem dX5_whyNoCommand_97 : decode cX5_whyNoCommand 97 = .ok (.invokevirtual 140, 3) := by decide +kernel
theorem dX5_whyNoCommand_100 : decode cX5_whyNoCommand 100 = .ok (.ireturn, 1) := by decide +kernel
theorem dX5_whyNoCommand_101 : decode cX5_whyNoCommand 101 = .ok (.aload_n 0, 1) := by decide +kernel
theorem dX5_whyNoCommand_102 : decode cX5_whyNoCommand 102 = .ok (.aload_n 0, 1) := by decide +kernel
theorem dX5_whyNoCommand_103 : decode cX5_whyNoCommand 103 = .ok (.getfield 180, 3) := by decide +kernel
theorem dX5_whyNoCommand_106 : decode cX5_whyNoCommand 106 = .ok (.aload_n 0, 1) := by decide +kernel
theorem dX5_whyNoCommand_107 : decode cX5_whyNoCommand 107 = .ok (.getfield 171, 3) := by decide +kernel
theorem dX5_whyNoCommand_110 : decode cX5_whyNoCommand 110 = .ok (.invokevirtual 147, 3) := by decide +kernel
theorem dX5_whyNoCommand_113 : decode cX5_whyNoCommand 113 = .ok (.ireturn, 1) := by decide +kernel
theorem dX5_whyNoCommand_114 : decode cX5_whyNoCommand 114 = .ok (.aload_n 0, 1) := by decide +kernel
theorem dX5_whyNoCommand_115 : decode cX5_whyNoCommand 115 = .ok (.aload_n 0, 1) := by decide +kernel
theorem dX5_whyNoCommand_116 : decode cX5_whyNoCommand 116 = .ok (.getfield 180, 3) := by decide +kernel
theorem dX5_whyNoCommand_119 : decode cX5_whyNoCommand 119 = .ok (.invokevirtual 159, 3) := by decide +kernel
theorem dX5_whyNoCommand_122 : decode cX5_whyNoCommand 122 = .ok (.ireturn, 1) := by decide +kernel
theorem dX5_whyNoCommand_123 : decode cX5_whyNoCommand 123 = .ok (.aload_n 0, 1) := by decide +kernel
theorem dX5_whyNoCommand_124 : decode cX5_whyNoCommand 124 = .ok (.aload_n 0, 1) := by decide +kernel
theorem dX5_whyNoCommand_125 : decode cX5_whyNoCommand 125 = .ok (.getfield 180, 3) := by decide +kernel
theorem dX5_whyNoCommand_128 : decode cX5_whyNoCommand 128 = .ok (.invokevirtual 165, 3) := by decide +kernel
theorem dX5_whyNoCommand_131 : decode cX5_whyNoCommand 131 = .ok (.ireturn, 1) := by decide +kernel
theorem dX5_whyNoCommand_132 : decode cX5_whyNoCommand 132 = .ok (.aload_n 0, 1) := by decide +kernel
theorem dX5_whyNoCommand_133 : decode cX5_whyNoCommand 133 = .ok (.aload_n 0, 1) := by decide +kernel
theorem dX5_whyNoCommand_134 : decode cX5_whyNoCommand 134 = .ok (.getfield 180, 3) := by decide +kernel
theorem dX5_whyNoCommand_137 : decode cX5_whyNoCommand 137 = .ok (.invokevirtual 153, 3) := by decide +kernel
theorem dX5_whyNoCommand_140 : decode cX5_whyNoCommand 140 = .ok (.ireturn, 1) := by decide +kernel
theorem dX5_doCommand_0 : decode cX5_doCommand 0 = .ok (.aload_n 0, 1) := by decide +kernel
theorem dX5_doCommand_1 : decode cX5_doCommand 1 = .ok (.getfield 177, 3) := by decide +kernel
theorem dX5_doCommand_4 : decode cX5_doCommand 4 = .ok (.lookupswitch 119 #[(97, 110), (98, 60), (99, 110), (115, 69), (119, 97), (120, 83)], 60) := by decide +kernel
theorem dX5_doCommand_64 : decode cX5_doCommand 64 = .ok (.aload_n 0, 1) := by decide +kernel
theorem dX5_doCommand_65 : decode cX5_doCommand 65 = .ok (.aload_n 0, 1) := by decide +kernel
theorem dX5_doCommand_66 : decode cX5_doCommand 66 = .ok (.getfield 180, 3) := by decide +kernel
theorem dX5_doCommand_69 : decode cX5_doCommand 69 = .ok (.invokevirtual 115, 3) := by decide +kernel
theorem dX5_doCommand_72 : decode cX5_doCommand 72 = .ok (.ireturn, 1) := by decide +kernel
theorem dX5_doCommand_73 : decode cX5_doCommand 73 = .ok (.aload_n 0, 1) := by decide +kernel
theorem dX5_doCommand_74 : decode cX5_doCommand 74 = .ok (.aload_n 0, 1) := by decide +kernel
theorem dX5_doCommand_75 : decode cX5_doCommand 75 = .ok (.getfield 180, 3) := by decide +kernel
theorem dX5_doCommand_78 : decode cX5_doCommand 78 = .ok (.aload_n 0, 1) := by decide +kernel
theorem dX5_doCommand_79 : decode cX5_doCommand 79 = .ok (.getfield 171, 3) := by decide +kernel
theorem dX5_doCommand_82 : decode cX5_doCommand 82 = .ok (.iconst 1, 1) := by decide +kernel
theorem dX5_doCommand_83 : decode cX5_doCommand 83 = .ok (.invokevirtual 144, 3) := by decide +kernel
theorem dX5_doCommand_86 : decode cX5_doCommand 86 = .ok (.ireturn, 1) := by decide +kernel
theorem dX5_doCommand_87 : decode cX5_doCommand 87 = .ok (.aload_n 0, 1) := by decide +kernel
theorem dX5_doCommand_88 : decode cX5_doCommand 88 = .ok (.aload_n 0, 1) := by decide +kernel
theorem dX5_doCommand_89 : decode cX5_doCommand 89 = .ok (.getfield 180, 3) := by decide +kernel
theorem dX5_doCommand_92 : decode cX5_doCommand 92 = .ok (.aload_n 0, 1) := by decide +kernel
theorem dX5_doCommand_93 : decode cX5_doCommand 93 = .ok (.getfield 171, 3) := by decide +kernel
theorem dX5_doCommand_96 : decode cX5_doCommand 96 = .ok (.iconst 2, 1) := by decide +kernel
theorem dX5_doCommand_97 : decode cX5_doCommand 97 = .ok (.invokevirtual 144, 3) := by decide +kernel
theorem dX5_doCommand_100 : decode cX5_doCommand 100 = .ok (.ireturn, 1) := by decide +kernel
theorem dX5_doCommand_101 : decode cX5_doCommand 101 = .ok (.aload_n 0, 1) := by decide +kernel
theorem dX5_doCommand_102 : decode cX5_doCommand 102 = .ok (.aload_n 0, 1) := by decide +kernel
theorem dX5_doCommand_103 : decode cX5_doCommand 103 = .ok (.getfield 180, 3) := by decide +kernel
theorem dX5_doCommand_106 : decode cX5_doCommand 106 = .ok (.aload_n 0, 1) := by decide +kernel
theorem dX5_doCommand_107 : decode cX5_doCommand 107 = .ok (.getfield 171, 3) := by decide +kernel
theorem dX5_doCommand_110 : decode cX5_doCommand 110 = .ok (.invokevirtual 150, 3) := by decide +kernel
theorem dX5_doCommand_113 : decode cX5_doCommand 113 = .ok (.ireturn, 1) := by decide +kernel
theorem dX5_doCommand_114 : decode cX5_doCommand 114 = .ok (.aload_n 0, 1) := by decide +kernel
theorem dX5_doCommand_115 : decode cX5_doCommand 115 = .ok (.aload_n 0, 1) := by decide +kernel
theorem dX5_doCommand_116 : decode cX5_doCommand 116 = .ok (.getfield 180, 3) := by decide +kernel
theorem dX5_doCommand_119 : decode cX5_doCommand 119 = .ok (.invokevirtual 162, 3) := by decide +kernel
theorem dX5_doCommand_122 : decode cX5_doCommand 122 = .ok (.ireturn, 1) := by decide +kernel
theorem dX5_doCommand_123 : decode cX5_doCommand 123 = .ok (.aload_n 0, 1) := by decide +kernel
theorem dX5_doCommand_124 : decode cX5_doCommand 124 = .ok (.aload_n 0, 1) := by decide +kernel
theorem dX5_doCommand_125 : decode cX5_doCommand 125 = .ok (.getfield 180, 3) := by decide +kernel
theorem dX5_doCommand_128 : decode cX5_doCommand 128 = .ok (.invokevirtual 156, 3) := by decide +kernel
theorem dX5_doCommand_131 : decode cX5_doCommand 131 = .ok (.ireturn, 1) := by decide +kernel
theorem dX5_runText_0 : decode cX5_runText 0 = .ok (.aload_n 0, 1) := by decide +kernel
theorem dX5_runText_1 : decode cX5_runText 1 = .ok (.aload_n 0, 1) := by decide +kernel
theorem dX5_runText_2 : decode cX5_runText 2 = .ok (.invokevirtual 189, 3) := by decide +kernel
theorem dX5_runText_5 : decode cX5_runText 5 = .ok (.iconst (-1), 1) := by decide +kernel
theorem dX5_runText_6 : decode cX5_runText 6 = .ok (.if_icmp .ne 7, 3) := by decide +kernel
theorem dX5_runText_9 : decode cX5_runText 9 = .ok (.iconst 0, 1) := by decide +kernel
theorem dX5_runText_10 : decode cX5_runText 10 = .ok (.goto 4, 3) := by decide +kernel
theorem dX5_runText_13 : decode cX5_runText 13 = .ok (.iconst 1, 1) := by decide +kernel
theorem dX5_runText_14 : decode cX5_runText 14 = .ok (.putfield 32, 3) := by decide +kernel
theorem dX5_runText_17 : decode cX5_runText 17 = .ok (.aload_n 0, 1) := by decide +kernel
theorem dX5_runText_18 : decode cX5_runText 18 = .ok (.getfield 32, 3) := by decide +kernel
theorem dX5_runText_21 : decode cX5_runText 21 = .ok (.ifCond .le 5, 3) := by decide +kernel
theorem dX5_runText_24 : decode cX5_runText 24 = .ok (.iconst 0, 1) := by decide +kernel
theorem dX5_runText_25 : decode cX5_runText 25 = .ok (.ireturn, 1) := by decide +kernel
theorem dX5_runText_26 : decode cX5_runText 26 = .ok (.aload_n 0, 1) := by decide +kernel
theorem dX5_runText_27 : decode cX5_runText 27 = .ok (.invokevirtual 112, 3) := by decide +kernel
theorem dX5_runText_30 : decode cX5_runText 30 = .ok (.iconst 0, 1) := by decide +kernel
theorem dX5_runText_31 : decode cX5_runText 31 = .ok (.istore_n 1, 1) := by decide +kernel
theorem dX5_runText_32 : decode cX5_runText 32 = .ok (.iconst 0, 1) := by decide +kernel
theorem dX5_runText_33 : decode cX5_runText 33 = .ok (.istore_n 2, 1) := by decide +kernel
theorem dX5_runText_34 : decode cX5_runText 34 = .ok (.iconst 1, 1) := by decide +kernel
theorem dX5_runText_35 : decode cX5_runText 35 = .ok (.istore_n 3, 1) := by decide +kernel
theorem dX5_runText_36 : decode cX5_runText 36 = .ok (.iload_n 3, 1) := by decide +kernel
theorem dX5_runText_37 : decode cX5_runText 37 = .ok (.ifCond .eq 47, 3) := by decide +kernel
theorem dX5_runText_40 : decode cX5_runText 40 = .ok (.iload_n 2, 1) := by decide +kernel
theorem dX5_runText_41 : decode cX5_runText 41 = .ok (.aload_n 0, 1) := by decide +kernel
theorem dX5_runText_42 : decode cX5_runText 42 = .ok (.getfield 168, 3) := by decide +kernel
theorem dX5_runText_45 : decode cX5_runText 45 = .ok (.if_icmp .ge 39, 3) := by decide +kernel
theorem dX5_runText_48 : decode cX5_runText 48 = .ok (.aload_n 0, 1) := by decide +kernel
theorem dX5_runText_49 : decode cX5_runText 49 = .ok (.iload_n 2, 1) := by decide +kernel
theorem dX5_runText_50 : decode cX5_runText 50 = .ok (.invokevirtual 186, 3) := by decide +kernel
theorem dX5_runText_53 : decode cX5_runText 53 = .ok (.iconst 1, 1) := by decide +kernel
theorem dX5_runText_54 : decode cX5_runText 54 = .ok (.iadd, 1) := by decide +kernel
theorem dX5_runText_55 : decode cX5_runText 55 = .ok (.istore_n 2, 1) := by decide +kernel
theorem dX5_runText_56 : decode cX5_runText 56 = .ok (.aload_n 0, 1) := by decide +kernel
theorem dX5_runText_57 : decode cX5_runText 57 = .ok (.invokevirtual 192, 3) := by decide +kernel
theorem dX5_runText_60 : decode cX5_runText 60 = .ok (.ifCond .ne 7, 3) := by decide +kernel
theorem dX5_runText_63 : decode cX5_runText 63 = .ok (.iconst 1, 1) := by decide +kernel
theorem dX5_runText_64 : decode cX5_runText 64 = .ok (.goto 4, 3) := by decide +kernel
theorem dX5_runText_67 : decode cX5_runText 67 = .ok (.iconst 0, 1) := by decide +kernel
theorem dX5_runText_68 : decode cX5_runText 68 = .ok (.istore_n 3, 1) := by decide +kernel
theorem dX5_runText_69 : decode cX5_runText 69 = .ok (.iload_n 3, 1) := by decide +kernel
theorem dX5_runText_70 : decode cX5_runText 70 = .ok (.ifCond .eq (-34), 3) := by decide +kernel
theorem dX5_runText_73 : decode cX5_runText 73 = .ok (.aload_n 0, 1) := by decide +kernel
theorem dX5_runText_74 : decode cX5_runText 74 = .ok (.invokevirtual 195, 3) := by decide +kernel
theorem dX5_runText_77 : decode cX5_runText 77 = .ok (.pop, 1) := by decide +kernel
theorem dX5_runText_78 : decode cX5_runText 78 = .ok (.iinc 1 1, 3) := by decide +kernel
theorem dX5_runText_81 : decode cX5_runText 81 = .ok (.goto (-45), 3) := by decide +kernel
theorem dX5_runText_84 : decode cX5_runText 84 = .ok (.iload_n 1, 1) := by decide +kernel
theorem dX5_runText_85 : decode cX5_runText 85 = .ok (.ireturn, 1) := by decide +kernel
theorem dX5_told_0 : decode cX5_told 0 = .ok (.aload_n 0, 1) := by decide +kernel
theorem dX5_told_1 : decode cX5_told 1 = .ok (.iload_n 1, 1) := by decide +kernel
theorem dX5_told_2 : decode cX5_told 2 = .ok (.invokestatic 106, 3) := by decide +kernel
theorem dX5_told_5 : decode cX5_told 5 = .ok (.ifCond .eq 7, 3) := by decide +kernel
theorem dX5_told_8 : decode cX5_told 8 = .ok (.iconst 0, 1) := by decide +kernel
theorem dX5_told_9 : decode cX5_told 9 = .ok (.goto 4, 3) := by decide +kernel
theorem dX5_told_12 : decode cX5_told 12 = .ok (.iconst 1, 1) := by decide +kernel
theorem dX5_told_13 : decode cX5_told 13 = .ok (.putfield 32, 3) := by decide +kernel
theorem dX5_told_16 : decode cX5_told 16 = .ok (.aload_n 0, 1) := by decide +kernel
theorem dX5_told_17 : decode cX5_told 17 = .ok (.getfield 32, 3) := by decide +kernel
theorem dX5_told_20 : decode cX5_told 20 = .ok (.ifCond .le 7, 3) := by decide +kernel
theorem dX5_told_23 : decode cX5_told 23 = .ok (.iconst 0, 1) := by decide +kernel
theorem dX5_told_24 : decode cX5_told 24 = .ok (.goto 9, 3) := by decide +kernel
theorem dX5_told_27 : decode cX5_told 27 = .ok (.aload_n 0, 1) := by decide +kernel
theorem dX5_told_28 : decode cX5_told 28 = .ok (.iload_n 1, 1) := by decide +kernel
theorem dX5_told_29 : decode cX5_told 29 = .ok (.iload_n 2, 1) := by decide +kernel
theorem dX5_told_30 : decode cX5_told 30 = .ok (.invokevirtual 40, 3) := by decide +kernel
theorem dX5_told_33 : decode cX5_told 33 = .ok (.ireturn, 1) := by decide +kernel
theorem dX5_state_0 : decode cX5_state 0 = .ok (.aload_n 0, 1) := by decide +kernel
theorem dX5_state_1 : decode cX5_state 1 = .ok (.iload_n 1, 1) := by decide +kernel
theorem dX5_state_2 : decode cX5_state 2 = .ok (.iconst 0, 1) := by decide +kernel
theorem dX5_state_3 : decode cX5_state 3 = .ok (.invokevirtual 198, 3) := by decide +kernel
theorem dX5_state_6 : decode cX5_state 6 = .ok (.ireturn, 1) := by decide +kernel
theorem dX5_workOf_0 : decode cX5_workOf 0 = .ok (.aload_n 0, 1) := by decide +kernel
theorem dX5_workOf_1 : decode cX5_workOf 1 = .ok (.iload_n 1, 1) := by decide +kernel
theorem dX5_workOf_2 : decode cX5_workOf 2 = .ok (.iconst 1, 1) := by decide +kernel
theorem dX5_workOf_3 : decode cX5_workOf 3 = .ok (.invokevirtual 198, 3) := by decide +kernel
theorem dX5_workOf_6 : decode cX5_workOf 6 = .ok (.ireturn, 1) := by decide +kernel
theorem dX5_abortsOf_0 : decode cX5_abortsOf 0 = .ok (.aload_n 0, 1) := by decide +kernel
theorem dX5_abortsOf_1 : decode cX5_abortsOf 1 = .ok (.iload_n 1, 1) := by decide +kernel
theorem dX5_abortsOf_2 : decode cX5_abortsOf 2 = .ok (.iconst 2, 1) := by decide +kernel
theorem dX5_abortsOf_3 : decode cX5_abortsOf 3 = .ok (.invokevirtual 198, 3) := by decide +kernel
theorem dX5_abortsOf_6 : decode cX5_abortsOf 6 = .ok (.ireturn, 1) := by decide +kernel
theorem dX5_birthOf_0 : decode cX5_birthOf 0 = .ok (.aload_n 0, 1) := by decide +kernel
theorem dX5_birthOf_1 : decode cX5_birthOf 1 = .ok (.iload_n 1, 1) := by decide +kernel
theorem dX5_birthOf_2 : decode cX5_birthOf 2 = .ok (.iconst 3, 1) := by decide +kernel
theorem dX5_birthOf_3 : decode cX5_birthOf 3 = .ok (.invokevirtual 198, 3) := by decide +kernel
theorem dX5_birthOf_6 : decode cX5_birthOf 6 = .ok (.ireturn, 1) := by decide +kernel
theorem dX5_held_0 : decode cX5_held 0 = .ok (.aload_n 0, 1) := by decide +kernel
theorem dX5_held_1 : decode cX5_held 1 = .ok (.iload_n 1, 1) := by decide +kernel
theorem dX5_held_2 : decode cX5_held 2 = .ok (.invokestatic 106, 3) := by decide +kernel
theorem dX5_held_5 : decode cX5_held 5 = .ok (.ifCond .eq 14, 3) := by decide +kernel
theorem dX5_held_8 : decode cX5_held 8 = .ok (.iload_n 2, 1) := by decide +kernel
theorem dX5_held_9 : decode cX5_held 9 = .ok (.invokestatic 118, 3) := by decide +kernel
theorem dX5_held_12 : decode cX5_held 12 = .ok (.ifCond .eq 7, 3) := by decide +kernel
theorem dX5_held_15 : decode cX5_held 15 = .ok (.iconst 0, 1) := by decide +kernel
theorem dX5_held_16 : decode cX5_held 16 = .ok (.goto 4, 3) := by decide +kernel
theorem dX5_held_19 : decode cX5_held 19 = .ok (.iconst 1, 1) := by decide +kernel
theorem dX5_held_20 : decode cX5_held 20 = .ok (.putfield 32, 3) := by decide +kernel
theorem dX5_held_23 : decode cX5_held 23 = .ok (.aload_n 0, 1) := by decide +kernel
theorem dX5_held_24 : decode cX5_held 24 = .ok (.getfield 32, 3) := by decide +kernel
theorem dX5_held_27 : decode cX5_held 27 = .ok (.ifCond .le 7, 3) := by decide +kernel
theorem dX5_held_30 : decode cX5_held 30 = .ok (.iconst 0, 1) := by decide +kernel
theorem dX5_held_31 : decode cX5_held 31 = .ok (.goto 9, 3) := by decide +kernel
theorem dX5_held_34 : decode cX5_held 34 = .ok (.aload_n 0, 1) := by decide +kernel
theorem dX5_held_35 : decode cX5_held 35 = .ok (.iload_n 1, 1) := by decide +kernel
theorem dX5_held_36 : decode cX5_held 36 = .ok (.iload_n 2, 1) := by decide +kernel
theorem dX5_held_37 : decode cX5_held 37 = .ok (.invokevirtual 51, 3) := by decide +kernel
theorem dX5_held_40 : decode cX5_held 40 = .ok (.ireturn, 1) := by decide +kernel
theorem dX5_awaited_0 : decode cX5_awaited 0 = .ok (.aload_n 0, 1) := by decide +kernel
theorem dX5_awaited_1 : decode cX5_awaited 1 = .ok (.iload_n 1, 1) := by decide +kernel
theorem dX5_awaited_2 : decode cX5_awaited 2 = .ok (.iconst 4, 1) := by decide +kernel
theorem dX5_awaited_3 : decode cX5_awaited 3 = .ok (.invokevirtual 198, 3) := by decide +kernel
theorem dX5_awaited_6 : decode cX5_awaited 6 = .ok (.ireturn, 1) := by decide +kernel
theorem dX5_waitedFor_0 : decode cX5_waitedFor 0 = .ok (.iconst 0, 1) := by decide +kernel
theorem dX5_waitedFor_1 : decode cX5_waitedFor 1 = .ok (.istore_n 2, 1) := by decide +kernel
theorem dX5_waitedFor_2 : decode cX5_waitedFor 2 = .ok (.iconst 0, 1) := by decide +kernel
theorem dX5_waitedFor_3 : decode cX5_waitedFor 3 = .ok (.istore_n 3, 1) := by decide +kernel
theorem dX5_waitedFor_4 : decode cX5_waitedFor 4 = .ok (.iload_n 3, 1) := by decide +kernel
theorem dX5_waitedFor_5 : decode cX5_waitedFor 5 = .ok (.bipush 8, 2) := by decide +kernel
theorem dX5_waitedFor_7 : decode cX5_waitedFor 7 = .ok (.if_icmp .ge 28, 3) := by decide +kernel
theorem dX5_waitedFor_10 : decode cX5_waitedFor 10 = .ok (.iload_n 2, 1) := by decide +kernel
theorem dX5_waitedFor_11 : decode cX5_waitedFor 11 = .ok (.aload_n 0, 1) := by decide +kernel
theorem dX5_waitedFor_12 : decode cX5_waitedFor 12 = .ok (.iload_n 1, 1) := by decide +kernel
theorem dX5_waitedFor_13 : decode cX5_waitedFor 13 = .ok (.iload_n 3, 1) := by decide +kernel
theorem dX5_waitedFor_14 : decode cX5_waitedFor 14 = .ok (.invokevirtual 80, 3) := by decide +kernel
theorem dX5_waitedFor_17 : decode cX5_waitedFor 17 = .ok (.ifCond .eq 9, 3) := by decide +kernel
theorem dX5_waitedFor_20 : decode cX5_waitedFor 20 = .ok (.iconst 1, 1) := by decide +kernel
theorem dX5_waitedFor_21 : decode cX5_waitedFor 21 = .ok (.iload_n 3, 1) := by decide +kernel
theorem dX5_waitedFor_22 : decode cX5_waitedFor 22 = .ok (.ishl, 1) := by decide +kernel
theorem dX5_waitedFor_23 : decode cX5_waitedFor 23 = .ok (.goto 4, 3) := by decide +kernel
theorem dX5_waitedFor_26 : decode cX5_waitedFor 26 = .ok (.iconst 0, 1) := by decide +kernel
theorem dX5_waitedFor_27 : decode cX5_waitedFor 27 = .ok (.ior, 1) := by decide +kernel
theorem dX5_waitedFor_28 : decode cX5_waitedFor 28 = .ok (.istore_n 2, 1) := by decide +kernel
theorem dX5_waitedFor_29 : decode cX5_waitedFor 29 = .ok (.iinc 3 1, 3) := by decide +kernel
theorem dX5_waitedFor_32 : decode cX5_waitedFor 32 = .ok (.goto (-28), 3) := by decide +kernel
theorem dX5_waitedFor_35 : decode cX5_waitedFor 35 = .ok (.iload_n 2, 1) := by decide +kernel
theorem dX5_waitedFor_36 : decode cX5_waitedFor 36 = .ok (.ireturn, 1) := by decide +kernel
theorem dX5_waitsFor_0 : decode cX5_waitsFor 0 = .ok (.aload_n 0, 1) := by decide +kernel
theorem dX5_waitsFor_1 : decode cX5_waitsFor 1 = .ok (.iload_n 1, 1) := by decide +kernel
theorem dX5_waitsFor_2 : decode cX5_waitsFor 2 = .ok (.invokestatic 106, 3) := by decide +kernel
theorem dX5_waitsFor_5 : decode cX5_waitsFor 5 = .ok (.ifCond .eq 7, 3) := by decide +kernel
theorem dX5_waitsFor_8 : decode cX5_waitsFor 8 = .ok (.iconst 0, 1) := by decide +kernel
theorem dX5_waitsFor_9 : decode cX5_waitsFor 9 = .ok (.goto 4, 3) := by decide +kernel
theorem dX5_waitsFor_12 : decode cX5_waitsFor 12 = .ok (.iconst 1, 1) := by decide +kernel
theorem dX5_waitsFor_13 : decode cX5_waitsFor 13 = .ok (.putfield 32, 3) := by decide +kernel
theorem dX5_waitsFor_16 : decode cX5_waitsFor 16 = .ok (.aload_n 0, 1) := by decide +kernel
theorem dX5_waitsFor_17 : decode cX5_waitsFor 17 = .ok (.getfield 32, 3) := by decide +kernel
theorem dX5_waitsFor_20 : decode cX5_waitsFor 20 = .ok (.ifCond .le 7, 3) := by decide +kernel
theorem dX5_waitsFor_23 : decode cX5_waitsFor 23 = .ok (.iconst 0, 1) := by decide +kernel
theorem dX5_waitsFor_24 : decode cX5_waitsFor 24 = .ok (.goto 8, 3) := by decide +kernel
theorem dX5_waitsFor_27 : decode cX5_waitsFor 27 = .ok (.aload_n 0, 1) := by decide +kernel
theorem dX5_waitsFor_28 : decode cX5_waitsFor 28 = .ok (.iload_n 1, 1) := by decide +kernel
theorem dX5_waitsFor_29 : decode cX5_waitsFor 29 = .ok (.invokevirtual 201, 3) := by decide +kernel
theorem dX5_waitsFor_32 : decode cX5_waitsFor 32 = .ok (.ireturn, 1) := by decide +kernel
theorem dX5_blockers_0 : decode cX5_blockers 0 = .ok (.aload_n 0, 1) := by decide +kernel
theorem dX5_blockers_1 : decode cX5_blockers 1 = .ok (.iload_n 1, 1) := by decide +kernel
theorem dX5_blockers_2 : decode cX5_blockers 2 = .ok (.invokestatic 106, 3) := by decide +kernel
theorem dX5_blockers_5 : decode cX5_blockers 5 = .ok (.ifCond .eq 7, 3) := by decide +kernel
theorem dX5_blockers_8 : decode cX5_blockers 8 = .ok (.iconst 0, 1) := by decide +kernel
theorem dX5_blockers_9 : decode cX5_blockers 9 = .ok (.goto 4, 3) := by decide +kernel
theorem dX5_blockers_12 : decode cX5_blockers 12 = .ok (.iconst 1, 1) := by decide +kernel
theorem dX5_blockers_13 : decode cX5_blockers 13 = .ok (.putfield 32, 3) := by decide +kernel
theorem dX5_blockers_16 : decode cX5_blockers 16 = .ok (.aload_n 0, 1) := by decide +kernel
theorem dX5_blockers_17 : decode cX5_blockers 17 = .ok (.getfield 32, 3) := by decide +kernel
theorem dX5_blockers_20 : decode cX5_blockers 20 = .ok (.ifCond .le 5, 3) := by decide +kernel
theorem dX5_blockers_23 : decode cX5_blockers 23 = .ok (.iconst 0, 1) := by decide +kernel
theorem dX5_blockers_24 : decode cX5_blockers 24 = .ok (.ireturn, 1) := by decide +kernel
theorem dX5_blockers_25 : decode cX5_blockers 25 = .ok (.aload_n 0, 1) := by decide +kernel
theorem dX5_blockers_26 : decode cX5_blockers 26 = .ok (.iload_n 1, 1) := by decide +kernel
theorem dX5_blockers_27 : decode cX5_blockers 27 = .ok (.invokevirtual 201, 3) := by decide +kernel
theorem dX5_blockers_30 : decode cX5_blockers 30 = .ok (.istore_n 2, 1) := by decide +kernel
theorem dX5_blockers_31 : decode cX5_blockers 31 = .ok (.iconst 0, 1) := by decide +kernel
theorem dX5_blockers_32 : decode cX5_blockers 32 = .ok (.istore_n 3, 1) := by decide +kernel
theorem dX5_blockers_33 : decode cX5_blockers 33 = .ok (.iload_n 3, 1) := by decide +kernel
theorem dX5_blockers_34 : decode cX5_blockers 34 = .ok (.bipush 8, 2) := by decide +kernel
theorem dX5_blockers_36 : decode cX5_blockers 36 = .ok (.if_icmp .ge 48, 3) := by decide +kernel
theorem dX5_blockers_39 : decode cX5_blockers 39 = .ok (.iconst 0, 1) := by decide +kernel
theorem dX5_blockers_40 : decode cX5_blockers 40 = .ok (.istore 4, 2) := by decide +kernel
theorem dX5_blockers_42 : decode cX5_blockers 42 = .ok (.iload 4, 2) := by decide +kernel
theorem dX5_blockers_44 : decode cX5_blockers 44 = .ok (.bipush 8, 2) := by decide +kernel
theorem dX5_blockers_46 : decode cX5_blockers 46 = .ok (.if_icmp .ge 32, 3) := by decide +kernel
theorem dX5_blockers_49 : decode cX5_blockers 49 = .ok (.iload_n 2, 1) := by decide +kernel
theorem dX5_blockers_50 : decode cX5_blockers 50 = .ok (.iload_n 2, 1) := by decide +kernel
theorem dX5_blockers_51 : decode cX5_blockers 51 = .ok (.iload 4, 2) := by decide +kernel
theorem dX5_blockers_53 : decode cX5_blockers 53 = .ok (.ishr, 1) := by decide +kernel
theorem dX5_blockers_54 : decode cX5_blockers 54 = .ok (.iconst 1, 1) := by decide +kernel
theorem dX5_blockers_55 : decode cX5_blockers 55 = .ok (.iand, 1) := by decide +kernel
theorem dX5_blockers_56 : decode cX5_blockers 56 = .ok (.iconst 1, 1) := by decide +kernel
theorem dX5_blockers_57 : decode cX5_blockers 57 = .ok (.if_icmp .ne 12, 3) := by decide +kernel
theorem dX5_blockers_60 : decode cX5_blockers 60 = .ok (.aload_n 0, 1) := by decide +kernel
theorem dX5_blockers_61 : decode cX5_blockers 61 = .ok (.iload 4, 2) := by decide +kernel
theorem dX5_blockers_63 : decode cX5_blockers 63 = .ok (.invokevirtual 201, 3) := by decide +kernel
theorem dX5_blockers_66 : decode cX5_blockers 66 = .ok (.goto 4, 3) := by decide +kernel
theorem dX5_blockers_69 : decode cX5_blockers 69 = .ok (.iconst 0, 1) := by decide +kernel
theorem dX5_blockers_70 : decode cX5_blockers 70 = .ok (.ior, 1) := by decide +kernel
theorem dX5_blockers_71 : decode cX5_blockers 71 = .ok (.istore_n 2, 1) := by decide +kernel
theorem dX5_blockers_72 : decode cX5_blockers 72 = .ok (.iinc 4 1, 3) := by decide +kernel
theorem dX5_blockers_75 : decode cX5_blockers 75 = .ok (.goto (-33), 3) := by decide +kernel
theorem dX5_blockers_78 : decode cX5_blockers 78 = .ok (.iinc 3 1, 3) := by decide +kernel
theorem dX5_blockers_81 : decode cX5_blockers 81 = .ok (.goto (-48), 3) := by decide +kernel
theorem dX5_blockers_84 : decode cX5_blockers 84 = .ok (.iconst 0, 1) := by decide +kernel
theorem dX5_blockers_85 : decode cX5_blockers 85 = .ok (.istore_n 3, 1) := by decide +kernel
theorem dX5_blockers_86 : decode cX5_blockers 86 = .ok (.iconst 0, 1) := by decide +kernel
theorem dX5_blockers_87 : decode cX5_blockers 87 = .ok (.istore 4, 2) := by decide +kernel
theorem dX5_blockers_89 : decode cX5_blockers 89 = .ok (.iload 4, 2) := by decide +kernel
theorem dX5_blockers_91 : decode cX5_blockers 91 = .ok (.bipush 8, 2) := by decide +kernel
theorem dX5_blockers_93 : decode cX5_blockers 93 = .ok (.if_icmp .ge 28, 3) := by decide +kernel
theorem dX5_blockers_96 : decode cX5_blockers 96 = .ok (.iload_n 3, 1) := by decide +kernel
theorem dX5_blockers_97 : decode cX5_blockers 97 = .ok (.iload 4, 2) := by decide +kernel
theorem dX5_blockers_99 : decode cX5_blockers 99 = .ok (.iload_n 1, 1) := by decide +kernel
theorem dX5_blockers_100 : decode cX5_blockers 100 = .ok (.if_icmp .eq 12, 3) := by decide +kernel
theorem dX5_blockers_103 : decode cX5_blockers 103 = .ok (.iload_n 2, 1) := by decide +kernel
theorem dX5_blockers_104 : decode cX5_blockers 104 = .ok (.iload 4, 2) := by decide +kernel
theorem dX5_blockers_106 : decode cX5_blockers 106 = .ok (.ishr, 1) := by decide +kernel
theorem dX5_blockers_107 : decode cX5_blockers 107 = .ok (.iconst 1, 1) := by decide +kernel
theorem dX5_blockers_108 : decode cX5_blockers 108 = .ok (.iand, 1) := by decide +kernel
theorem dX5_blockers_109 : decode cX5_blockers 109 = .ok (.goto 4, 3) := by decide +kernel
theorem dX5_blockers_112 : decode cX5_blockers 112 = .ok (.iconst 0, 1) := by decide +kernel
theorem dX5_blockers_113 : decode cX5_blockers 113 = .ok (.iadd, 1) := by decide +kernel
theorem dX5_blockers_114 : decode cX5_blockers 114 = .ok (.istore_n 3, 1) := by decide +kernel
theorem dX5_blockers_115 : decode cX5_blockers 115 = .ok (.iinc 4 1, 3) := by decide +kernel
theorem dX5_blockers_118 : decode cX5_blockers 118 = .ok (.goto (-29), 3) := by decide +kernel
theorem dX5_blockers_121 : decode cX5_blockers 121 = .ok (.iload_n 3, 1) := by decide +kernel
theorem dX5_blockers_122 : decode cX5_blockers 122 = .ok (.ireturn, 1) := by decide +kernel
theorem dX5_holders_0 : decode cX5_holders 0 = .ok (.aload_n 0, 1) := by decide +kernel
theorem dX5_holders_1 : decode cX5_holders 1 = .ok (.iload_n 1, 1) := by decide +kernel
theorem dX5_holders_2 : decode cX5_holders 2 = .ok (.invokestatic 118, 3) := by decide +kernel
theorem dX5_holders_5 : decode cX5_holders 5 = .ok (.ifCond .eq 7, 3) := by decide +kernel
theorem dX5_holders_8 : decode cX5_holders 8 = .ok (.iconst 0, 1) := by decide +kernel
theorem dX5_holders_9 : decode cX5_holders 9 = .ok (.goto 4, 3) := by decide +kernel
theorem dX5_holders_12 : decode cX5_holders 12 = .ok (.iconst 1, 1) := by decide +kernel
theorem dX5_holders_13 : decode cX5_holders 13 = .ok (.putfield 32, 3) := by decide +kernel
theorem dX5_holders_16 : decode cX5_holders 16 = .ok (.iconst 0, 1) := by decide +kernel
theorem dX5_holders_17 : decode cX5_holders 17 = .ok (.istore_n 2, 1) := by decide +kernel
theorem dX5_holders_18 : decode cX5_holders 18 = .ok (.iconst 0, 1) := by decide +kernel
theorem dX5_holders_19 : decode cX5_holders 19 = .ok (.istore_n 3, 1) := by decide +kernel
theorem dX5_holders_20 : decode cX5_holders 20 = .ok (.iload_n 3, 1) := by decide +kernel
theorem dX5_holders_21 : decode cX5_holders 21 = .ok (.bipush 8, 2) := by decide +kernel
theorem dX5_holders_23 : decode cX5_holders 23 = .ok (.if_icmp .ge 35, 3) := by decide +kernel
theorem dX5_holders_26 : decode cX5_holders 26 = .ok (.aload_n 0, 1) := by decide +kernel
theorem dX5_holders_27 : decode cX5_holders 27 = .ok (.getfield 32, 3) := by decide +kernel
theorem dX5_holders_30 : decode cX5_holders 30 = .ok (.ifCond .ne 28, 3) := by decide +kernel
theorem dX5_holders_33 : decode cX5_holders 33 = .ok (.iload_n 2, 1) := by decide +kernel
theorem dX5_holders_34 : decode cX5_holders 34 = .ok (.aload_n 0, 1) := by decide +kernel
theorem dX5_holders_35 : decode cX5_holders 35 = .ok (.iload_n 3, 1) := by decide +kernel
theorem dX5_holders_36 : decode cX5_holders 36 = .ok (.iload_n 1, 1) := by decide +kernel
theorem dX5_holders_37 : decode cX5_holders 37 = .ok (.invokevirtual 51, 3) := by decide +kernel
theorem dX5_holders_40 : decode cX5_holders 40 = .ok (.ifCond .le 9, 3) := by decide +kernel
theorem dX5_holders_43 : decode cX5_holders 43 = .ok (.iconst 1, 1) := by decide +kernel
theorem dX5_holders_44 : decode cX5_holders 44 = .ok (.iload_n 3, 1) := by decide +kernel
theorem dX5_holders_45 : decode cX5_holders 45 = .ok (.ishl, 1) := by decide +kernel
theorem dX5_holders_46 : decode cX5_holders 46 = .ok (.goto 4, 3) := by decide +kernel
theorem dX5_holders_49 : decode cX5_holders 49 = .ok (.iconst 0, 1) := by decide +kernel
theorem dX5_holders_50 : decode cX5_holders 50 = .ok (.ior, 1) := by decide +kernel
theorem dX5_holders_51 : decode cX5_holders 51 = .ok (.istore_n 2, 1) := by decide +kernel
theorem dX5_holders_52 : decode cX5_holders 52 = .ok (.iinc 3 1, 3) := by decide +kernel
theorem dX5_holders_55 : decode cX5_holders 55 = .ok (.goto (-35), 3) := by decide +kernel
theorem dX5_holders_58 : decode cX5_holders 58 = .ok (.iload_n 2, 1) := by decide +kernel
theorem dX5_holders_59 : decode cX5_holders 59 = .ok (.ireturn, 1) := by decide +kernel
theorem dX5_queueLength_0 : decode cX5_queueLength 0 = .ok (.aload_n 0, 1) := by decide +kernel
theorem dX5_queueLength_1 : decode cX5_queueLength 1 = .ok (.iload_n 1, 1) := by decide +kernel
theorem dX5_queueLength_2 : decode cX5_queueLength 2 = .ok (.invokestatic 118, 3) := by decide +kernel
theorem dX5_queueLength_5 : decode cX5_queueLength 5 = .ok (.ifCond .eq 7, 3) := by decide +kernel
theorem dX5_queueLength_8 : decode cX5_queueLength 8 = .ok (.iconst 0, 1) := by decide +kernel
theorem dX5_queueLength_9 : decode cX5_queueLength 9 = .ok (.goto 4, 3) := by decide +kernel
theorem dX5_queueLength_12 : decode cX5_queueLength 12 = .ok (.iconst 1, 1) := by decide +kernel
theorem dX5_queueLength_13 : decode cX5_queueLength 13 = .ok (.putfield 32, 3) := by decide +kernel
theorem dX5_queueLength_16 : decode cX5_queueLength 16 = .ok (.aload_n 0, 1) := by decide +kernel
theorem dX5_queueLength_17 : decode cX5_queueLength 17 = .ok (.getfield 32, 3) := by decide +kernel
theorem dX5_queueLength_20 : decode cX5_queueLength 20 = .ok (.ifCond .le 7, 3) := by decide +kernel
theorem dX5_queueLength_23 : decode cX5_queueLength 23 = .ok (.iconst 0, 1) := by decide +kernel
theorem dX5_queueLength_24 : decode cX5_queueLength 24 = .ok (.goto 8, 3) := by decide +kernel
theorem dX5_queueLength_27 : decode cX5_queueLength 27 = .ok (.aload_n 0, 1) := by decide +kernel
theorem dX5_queueLength_28 : decode cX5_queueLength 28 = .ok (.iload_n 1, 1) := by decide +kernel
theorem dX5_queueLength_29 : decode cX5_queueLength 29 = .ok (.invokevirtual 61, 3) := by decide +kernel
theorem dX5_queueLength_32 : decode cX5_queueLength 32 = .ok (.ireturn, 1) := by decide +kernel
theorem dX5_queued_0 : decode cX5_queued 0 = .ok (.aload_n 0, 1) := by decide +kernel
theorem dX5_queued_1 : decode cX5_queued 1 = .ok (.iload_n 1, 1) := by decide +kernel
theorem dX5_queued_2 : decode cX5_queued 2 = .ok (.invokestatic 118, 3) := by decide +kernel
theorem dX5_queued_5 : decode cX5_queued 5 = .ok (.ifCond .eq 11, 3) := by decide +kernel
theorem dX5_queued_8 : decode cX5_queued 8 = .ok (.iload_n 2, 1) := by decide +kernel
theorem dX5_queued_9 : decode cX5_queued 9 = .ok (.ifCond .lt 7, 3) := by decide +kernel
theorem dX5_queued_12 : decode cX5_queued 12 = .ok (.iconst 0, 1) := by decide +kernel
theorem dX5_queued_13 : decode cX5_queued 13 = .ok (.goto 4, 3) := by decide +kernel
theorem dX5_queued_16 : decode cX5_queued 16 = .ok (.iconst 1, 1) := by decide +kernel
theorem dX5_queued_17 : decode cX5_queued 17 = .ok (.putfield 32, 3) := by decide +kernel
theorem dX5_queued_20 : decode cX5_queued 20 = .ok (.aload_n 0, 1) := by decide +kernel
theorem dX5_queued_21 : decode cX5_queued 21 = .ok (.getfield 32, 3) := by decide +kernel
theorem dX5_queued_24 : decode cX5_queued 24 = .ok (.ifCond .le 5, 3) := by decide +kernel
theorem dX5_queued_27 : decode cX5_queued 27 = .ok (.iconst 0, 1) := by decide +kernel
theorem dX5_queued_28 : decode cX5_queued 28 = .ok (.ireturn, 1) := by decide +kernel
theorem dX5_queued_29 : decode cX5_queued 29 = .ok (.iload_n 2, 1) := by decide +kernel
theorem dX5_queued_30 : decode cX5_queued 30 = .ok (.aload_n 0, 1) := by decide +kernel
theorem dX5_queued_31 : decode cX5_queued 31 = .ok (.iload_n 1, 1) := by decide +kernel
theorem dX5_queued_32 : decode cX5_queued 32 = .ok (.invokevirtual 61, 3) := by decide +kernel
theorem dX5_queued_35 : decode cX5_queued 35 = .ok (.if_icmp .lt 5, 3) := by decide +kernel
theorem dX5_queued_38 : decode cX5_queued 38 = .ok (.iconst (-1), 1) := by decide +kernel
theorem dX5_queued_39 : decode cX5_queued 39 = .ok (.ireturn, 1) := by decide +kernel
theorem dX5_queued_40 : decode cX5_queued 40 = .ok (.aload_n 0, 1) := by decide +kernel
theorem dX5_queued_41 : decode cX5_queued 41 = .ok (.iload_n 1, 1) := by decide +kernel
theorem dX5_queued_42 : decode cX5_queued 42 = .ok (.iload_n 2, 1) := by decide +kernel
theorem dX5_queued_43 : decode cX5_queued 43 = .ok (.invokevirtual 65, 3) := by decide +kernel
theorem dX5_queued_46 : decode cX5_queued 46 = .ok (.istore_n 3, 1) := by decide +kernel
theorem dX5_queued_47 : decode cX5_queued 47 = .ok (.bipush 10, 2) := by decide +kernel
theorem dX5_queued_49 : decode cX5_queued 49 = .ok (.iload_n 3, 1) := by decide +kernel
theorem dX5_queued_50 : decode cX5_queued 50 = .ok (.imul, 1) := by decide +kernel
theorem dX5_queued_51 : decode cX5_queued 51 = .ok (.aload_n 0, 1) := by decide +kernel
theorem dX5_queued_52 : decode cX5_queued 52 = .ok (.iload_n 3, 1) := by decide +kernel
theorem dX5_queued_53 : decode cX5_queued 53 = .ok (.iconst 5, 1) := by decide +kernel
theorem dX5_queued_54 : decode cX5_queued 54 = .ok (.invokevirtual 40, 3) := by decide +kernel
theorem dX5_queued_57 : decode cX5_queued 57 = .ok (.iadd, 1) := by decide +kernel
theorem dX5_queued_58 : decode cX5_queued 58 = .ok (.ireturn, 1) := by decide +kernel
theorem dX5_tryRequest_0 : decode cX5_tryRequest 0 = .ok (.iconst 0, 1) := by decide +kernel
theorem dX5_tryRequest_1 : decode cX5_tryRequest 1 = .ok (.istore 4, 2) := by decide +kernel
theorem dX5_tryRequest_3 : decode cX5_tryRequest 3 = .ok (.iload 4, 2) := by decide +kernel
theorem dX5_tryRequest_5 : decode cX5_tryRequest 5 = .ok (.sipush 221, 3) := by decide +kernel
theorem dX5_tryRequest_8 : decode cX5_tryRequest 8 = .ok (.if_icmp .ge 23, 3) := by decide +kernel
theorem dX5_tryRequest_11 : decode cX5_tryRequest 11 = .ok (.aload_n 0, 1) := by decide +kernel
theorem dX5_tryRequest_12 : decode cX5_tryRequest 12 = .ok (.getfield 13, 3) := by decide +kernel
theorem dX5_tryRequest_15 : decode cX5_tryRequest 15 = .ok (.iload 4, 2) := by decide +kernel
theorem dX5_tryRequest_17 : decode cX5_tryRequest 17 = .ok (.aload_n 0, 1) := by decide +kernel
theorem dX5_tryRequest_18 : decode cX5_tryRequest 18 = .ok (.getfield 7, 3) := by decide +kernel
theorem dX5_tryRequest_21 : decode cX5_tryRequest 21 = .ok (.iload 4, 2) := by decide +kernel
theorem dX5_tryRequest_23 : decode cX5_tryRequest 23 = .ok (.iaload, 1) := by decide +kernel
theorem dX5_tryRequest_24 : decode cX5_tryRequest 24 = .ok (.iastore, 1) := by decide +kernel
theorem dX5_tryRequest_25 : decode cX5_tryRequest 25 = .ok (.iinc 4 1, 3) := by decide +kernel
theorem dX5_tryRequest_28 : decode cX5_tryRequest 28 = .ok (.goto (-25), 3) := by decide +kernel
theorem dX5_tryRequest_31 : decode cX5_tryRequest 31 = .ok (.aload_n 0, 1) := by decide +kernel
theorem dX5_tryRequest_32 : decode cX5_tryRequest 32 = .ok (.iload_n 1, 1) := by decide +kernel
theorem dX5_tryRequest_33 : decode cX5_tryRequest 33 = .ok (.iload_n 2, 1) := by decide +kernel
theorem dX5_tryRequest_34 : decode cX5_tryRequest 34 = .ok (.iload_n 3, 1) := by decide +kernel
theorem dX5_tryRequest_35 : decode cX5_tryRequest 35 = .ok (.invokevirtual 144, 3) := by decide +kernel
theorem dX5_tryRequest_38 : decode cX5_tryRequest 38 = .ok (.istore 4, 2) := by decide +kernel
theorem dX5_tryRequest_40 : decode cX5_tryRequest 40 = .ok (.iconst 0, 1) := by decide +kernel
theorem dX5_tryRequest_41 : decode cX5_tryRequest 41 = .ok (.istore 5, 2) := by decide +kernel
theorem dX5_tryRequest_43 : decode cX5_tryRequest 43 = .ok (.iload 5, 2) := by decide +kernel
theorem dX5_tryRequest_45 : decode cX5_tryRequest 45 = .ok (.sipush 221, 3) := by decide +kernel
theorem dX5_tryRequest_48 : decode cX5_tryRequest 48 = .ok (.if_icmp .ge 23, 3) := by decide +kernel
theorem dX5_tryRequest_51 : decode cX5_tryRequest 51 = .ok (.aload_n 0, 1) := by decide +kernel
theorem dX5_tryRequest_52 : decode cX5_tryRequest 52 = .ok (.getfield 7, 3) := by decide +kernel
theorem dX5_tryRequest_55 : decode cX5_tryRequest 55 = .ok (.iload 5, 2) := by decide +kernel
theorem dX5_tryRequest_57 : decode cX5_tryRequest 57 = .ok (.aload_n 0, 1) := by decide +kernel
theorem dX5_tryRequest_58 : decode cX5_tryRequest 58 = .ok (.getfield 13, 3) := by decide +kernel
theorem dX5_tryRequest_61 : decode cX5_tryRequest 61 = .ok (.iload 5, 2) := by decide +kernel
theorem dX5_tryRequest_63 : decode cX5_tryRequest 63 = .ok (.iaload, 1) := by decide +kernel
theorem dX5_tryRequest_64 : decode cX5_tryRequest 64 = .ok (.iastore, 1) := by decide +kernel
theorem dX5_tryRequest_65 : decode cX5_tryRequest 65 = .ok (.iinc 5 1, 3) := by decide +kernel
theorem dX5_tryRequest_68 : decode cX5_tryRequest 68 = .ok (.goto (-25), 3) := by decide +kernel
theorem dX5_tryRequest_71 : decode cX5_tryRequest 71 = .ok (.iload 4, 2) := by decide +kernel
theorem dX5_tryRequest_73 : decode cX5_tryRequest 73 = .ok (.ireturn, 1) := by decide +kernel
theorem dX5_ifRequested_0 : decode cX5_ifRequested 0 = .ok (.aload_n 0, 1) := by decide +kernel
theorem dX5_ifRequested_1 : decode cX5_ifRequested 1 = .ok (.iload_n 1, 1) := by decide +kernel
theorem dX5_ifRequested_2 : decode cX5_ifRequested 2 = .ok (.iload_n 2, 1) := by decide +kernel
theorem dX5_ifRequested_3 : decode cX5_ifRequested 3 = .ok (.iload_n 3, 1) := by decide +kernel
theorem dX5_ifRequested_4 : decode cX5_ifRequested 4 = .ok (.invokevirtual 140, 3) := by decide +kernel
theorem dX5_ifRequested_7 : decode cX5_ifRequested 7 = .ok (.istore 4, 2) := by decide +kernel
theorem dX5_ifRequested_9 : decode cX5_ifRequested 9 = .ok (.aload_n 0, 1) := by decide +kernel
theorem dX5_ifRequested_10 : decode cX5_ifRequested 10 = .ok (.iload 4, 2) := by decide +kernel
theorem dX5_ifRequested_12 : decode cX5_ifRequested 12 = .ok (.iconst 3, 1) := by decide +kernel
theorem dX5_ifRequested_13 : decode cX5_ifRequested 13 = .ok (.if_icmp .ne 7, 3) := by decide +kernel
theorem dX5_ifRequested_16 : decode cX5_ifRequested 16 = .ok (.iconst 0, 1) := by decide +kernel
theorem dX5_ifRequested_17 : decode cX5_ifRequested 17 = .ok (.goto 5, 3) := by decide +kernel
theorem dX5_ifRequested_20 : decode cX5_ifRequested 20 = .ok (.iload 4, 2) := by decide +kernel
theorem dX5_ifRequested_22 : decode cX5_ifRequested 22 = .ok (.putfield 32, 3) := by decide +kernel
theorem dX5_ifRequested_25 : decode cX5_ifRequested 25 = .ok (.aload_n 0, 1) := by decide +kernel
theorem dX5_ifRequested_26 : decode cX5_ifRequested 26 = .ok (.getfield 32, 3) := by decide +kernel
theorem dX5_ifRequested_29 : decode cX5_ifRequested 29 = .ok (.ifCond .le 5, 3) := by decide +kernel
theorem dX5_ifRequested_32 : decode cX5_ifRequested 32 = .ok (.iconst 0, 1) := by decide +kernel
theorem dX5_ifRequested_33 : decode cX5_ifRequested 33 = .ok (.ireturn, 1) := by decide +kernel
theorem dX5_ifRequested_34 : decode cX5_ifRequested 34 = .ok (.iload 4, 2) := by decide +kernel
theorem dX5_ifRequested_36 : decode cX5_ifRequested 36 = .ok (.iconst 3, 1) := by decide +kernel
theorem dX5_ifRequested_37 : decode cX5_ifRequested 37 = .ok (.if_icmp .ne 7, 3) := by decide +kernel
theorem dX5_ifRequested_40 : decode cX5_ifRequested 40 = .ok (.iconst (-1), 1) := by decide +kernel
theorem dX5_ifRequested_41 : decode cX5_ifRequested 41 = .ok (.goto 10, 3) := by decide +kernel
theorem dX5_ifRequested_44 : decode cX5_ifRequested 44 = .ok (.aload_n 0, 1) := by decide +kernel
theorem dX5_ifRequested_45 : decode cX5_ifRequested 45 = .ok (.iload_n 1, 1) := by decide +kernel
theorem dX5_ifRequested_46 : decode cX5_ifRequested 46 = .ok (.iload_n 2, 1) := by decide +kernel
theorem dX5_ifRequested_47 : decode cX5_ifRequested 47 = .ok (.iload_n 3, 1) := by decide +kernel
theorem dX5_ifRequested_48 : decode cX5_ifRequested 48 = .ok (.invokevirtual 204, 3) := by decide +kernel
theorem dX5_ifRequested_51 : decode cX5_ifRequested 51 = .ok (.ireturn, 1) := by decide +kernel
theorem dX5_victimsOf_0 : decode cX5_victimsOf 0 = .ok (.aload_n 0, 1) := by decide +kernel
theorem dX5_victimsOf_1 : decode cX5_victimsOf 1 = .ok (.iload_n 1, 1) := by decide +kernel
theorem dX5_victimsOf_2 : decode cX5_victimsOf 2 = .ok (.iload_n 2, 1) := by decide +kernel
theorem dX5_victimsOf_3 : decode cX5_victimsOf 3 = .ok (.iload_n 3, 1) := by decide +kernel
theorem dX5_victimsOf_4 : decode cX5_victimsOf 4 = .ok (.invokevirtual 140, 3) := by decide +kernel
theorem dX5_victimsOf_7 : decode cX5_victimsOf 7 = .ok (.istore 4, 2) := by decide +kernel
theorem dX5_victimsOf_9 : decode cX5_victimsOf 9 = .ok (.aload_n 0, 1) := by decide +kernel
theorem dX5_victimsOf_10 : decode cX5_victimsOf 10 = .ok (.iload 4, 2) := by decide +kernel
theorem dX5_victimsOf_12 : decode cX5_victimsOf 12 = .ok (.iconst 3, 1) := by decide +kernel
theorem dX5_victimsOf_13 : decode cX5_victimsOf 13 = .ok (.if_icmp .ne 7, 3) := by decide +kernel
theorem dX5_victimsOf_16 : decode cX5_victimsOf 16 = .ok (.iconst 0, 1) := by decide +kernel
theorem dX5_victimsOf_17 : decode cX5_victimsOf 17 = .ok (.goto 5, 3) := by decide +kernel
theorem dX5_victimsOf_20 : decode cX5_victimsOf 20 = .ok (.iload 4, 2) := by decide +kernel
theorem dX5_victimsOf_22 : decode cX5_victimsOf 22 = .ok (.putfield 32, 3) := by decide +kernel
theorem dX5_victimsOf_25 : decode cX5_victimsOf 25 = .ok (.iload 4, 2) := by decide +kernel
theorem dX5_victimsOf_27 : decode cX5_victimsOf 27 = .ok (.ifCond .le 5, 3) := by decide +kernel
theorem dX5_victimsOf_30 : decode cX5_victimsOf 30 = .ok (.iconst 0, 1) := by decide +kernel
theorem dX5_victimsOf_31 : decode cX5_victimsOf 31 = .ok (.ireturn, 1) := by decide +kernel
theorem dX5_victimsOf_32 : decode cX5_victimsOf 32 = .ok (.aload_n 0, 1) := by decide +kernel
theorem dX5_victimsOf_33 : decode cX5_victimsOf 33 = .ok (.iload_n 1, 1) := by decide +kernel
theorem dX5_victimsOf_34 : decode cX5_victimsOf 34 = .ok (.iload_n 2, 1) := by decide +kernel
theorem dX5_victimsOf_35 : decode cX5_victimsOf 35 = .ok (.iload_n 3, 1) := by decide +kernel
theorem dX5_victimsOf_36 : decode cX5_victimsOf 36 = .ok (.invokevirtual 204, 3) := by decide +kernel
theorem dX5_victimsOf_39 : decode cX5_victimsOf 39 = .ok (.istore 5, 2) := by decide +kernel
theorem dX5_victimsOf_41 : decode cX5_victimsOf 41 = .ok (.iload 5, 2) := by decide +kernel
theorem dX5_victimsOf_43 : decode cX5_victimsOf 43 = .ok (.ifCond .le 10, 3) := by decide +kernel
theorem dX5_victimsOf_46 : decode cX5_victimsOf 46 = .ok (.aload_n 0, 1) := by decide +kernel
theorem dX5_victimsOf_47 : decode cX5_victimsOf 47 = .ok (.getfield 97, 3) := by decide +kernel
theorem dX5_victimsOf_50 : decode cX5_victimsOf 50 = .ok (.goto 4, 3) := by decide +kernel
theorem dX5_victimsOf_53 : decode cX5_victimsOf 53 = .ok (.iconst 0, 1) := by decide +kernel
theorem dX5_victimsOf_54 : decode cX5_victimsOf 54 = .ok (.ireturn, 1) := by decide +kernel
theorem dX5_brokenRings_0 : decode cX5_brokenRings 0 = .ok (.aload_n 0, 1) := by decide +kernel
theorem dX5_brokenRings_1 : decode cX5_brokenRings 1 = .ok (.iconst 0, 1) := by decide +kernel
theorem dX5_brokenRings_2 : decode cX5_brokenRings 2 = .ok (.putfield 32, 3) := by decide +kernel
theorem dX5_brokenRings_5 : decode cX5_brokenRings 5 = .ok (.aload_n 0, 1) := by decide +kernel
theorem dX5_brokenRings_6 : decode cX5_brokenRings 6 = .ok (.getfield 7, 3) := by decide +kernel
theorem dX5_brokenRings_9 : decode cX5_brokenRings 9 = .ok (.sipush 219, 3) := by decide +kernel
theorem dX5_brokenRings_12 : decode cX5_brokenRings 12 = .ok (.iaload, 1) := by decide +kernel
theorem dX5_brokenRings_13 : decode cX5_brokenRings 13 = .ok (.ireturn, 1) := by decide +kernel
theorem dX5_lostWork_0 : decode cX5_lostWork 0 = .ok (.aload_n 0, 1) := by decide +kernel
theorem dX5_lostWork_1 : decode cX5_lostWork 1 = .ok (.iconst 0, 1) := by decide +kernel
theorem dX5_lostWork_2 : decode cX5_lostWork 2 = .ok (.putfield 32, 3) := by decide +kernel
theorem dX5_lostWork_5 : decode cX5_lostWork 5 = .ok (.aload_n 0, 1) := by decide +kernel
theorem dX5_lostWork_6 : decode cX5_lostWork 6 = .ok (.getfield 7, 3) := by decide +kernel
theorem dX5_lostWork_9 : decode cX5_lostWork 9 = .ok (.sipush 220, 3) := by decide +kernel
theorem dX5_lostWork_12 : decode cX5_lostWork 12 = .ok (.iaload, 1) := by decide +kernel
theorem dX5_lostWork_13 : decode cX5_lostWork 13 = .ok (.ireturn, 1) := by decide +kernel
theorem dX5_locksHeld_0 : decode cX5_locksHeld 0 = .ok (.aload_n 0, 1) := by decide +kernel
theorem dX5_locksHeld_1 : decode cX5_locksHeld 1 = .ok (.iconst 0, 1) := by decide +kernel
theorem dX5_locksHeld_2 : decode cX5_locksHeld 2 = .ok (.putfield 32, 3) := by decide +kernel
theorem dX5_locksHeld_5 : decode cX5_locksHeld 5 = .ok (.iconst 0, 1) := by decide +kernel
theorem dX5_locksHeld_6 : decode cX5_locksHeld 6 = .ok (.istore_n 1, 1) := by decide +kernel
theorem dX5_locksHeld_7 : decode cX5_locksHeld 7 = .ok (.iconst 0, 1) := by decide +kernel
theorem dX5_locksHeld_8 : decode cX5_locksHeld 8 = .ok (.istore_n 2, 1) := by decide +kernel
theorem dX5_locksHeld_9 : decode cX5_locksHeld 9 = .ok (.iload_n 2, 1) := by decide +kernel
theorem dX5_locksHeld_10 : decode cX5_locksHeld 10 = .ok (.bipush 80, 2) := by decide +kernel
theorem dX5_locksHeld_12 : decode cX5_locksHeld 12 = .ok (.if_icmp .ge 29, 3) := by decide +kernel
theorem dX5_locksHeld_15 : decode cX5_locksHeld 15 = .ok (.iload_n 1, 1) := by decide +kernel
theorem dX5_locksHeld_16 : decode cX5_locksHeld 16 = .ok (.aload_n 0, 1) := by decide +kernel
theorem dX5_locksHeld_17 : decode cX5_locksHeld 17 = .ok (.getfield 7, 3) := by decide +kernel
theorem dX5_locksHeld_20 : decode cX5_locksHeld 20 = .ok (.bipush 48, 2) := by decide +kernel
theorem dX5_locksHeld_22 : decode cX5_locksHeld 22 = .ok (.iload_n 2, 1) := by decide +kernel
theorem dX5_locksHeld_23 : decode cX5_locksHeld 23 = .ok (.iadd, 1) := by decide +kernel
theorem dX5_locksHeld_24 : decode cX5_locksHeld 24 = .ok (.iaload, 1) := by decide +kernel
theorem dX5_locksHeld_25 : decode cX5_locksHeld 25 = .ok (.ifCond .le 7, 3) := by decide +kernel
theorem dX5_locksHeld_28 : decode cX5_locksHeld 28 = .ok (.iconst 1, 1) := by decide +kernel
theorem dX5_locksHeld_29 : decode cX5_locksHeld 29 = .ok (.goto 4, 3) := by decide +kernel
theorem dX5_locksHeld_32 : decode cX5_locksHeld 32 = .ok (.iconst 0, 1) := by decide +kernel
theorem dX5_locksHeld_33 : decode cX5_locksHeld 33 = .ok (.iadd, 1) := by decide +kernel
theorem dX5_locksHeld_34 : decode cX5_locksHeld 34 = .ok (.istore_n 1, 1) := by decide +kernel
theorem dX5_locksHeld_35 : decode cX5_locksHeld 35 = .ok (.iinc 2 1, 3) := by decide +kernel
theorem dX5_locksHeld_38 : decode cX5_locksHeld 38 = .ok (.goto (-29), 3) := by decide +kernel
theorem dX5_locksHeld_41 : decode cX5_locksHeld 41 = .ok (.iload_n 1, 1) := by decide +kernel
theorem dX5_locksHeld_42 : decode cX5_locksHeld 42 = .ok (.ireturn, 1) := by decide +kernel
theorem dX5_savedStates_0 : decode cX5_savedStates 0 = .ok (.aload_n 0, 1) := by decide +kernel
theorem dX5_savedStates_1 : decode cX5_savedStates 1 = .ok (.iconst 0, 1) := by decide +kernel
theorem dX5_savedStates_2 : decode cX5_savedStates 2 = .ok (.putfield 32, 3) := by decide +kernel
theorem dX5_savedStates_5 : decode cX5_savedStates 5 = .ok (.aload_n 0, 1) := by decide +kernel
theorem dX5_savedStates_6 : decode cX5_savedStates 6 = .ok (.getfield 48, 3) := by decide +kernel
theorem dX5_savedStates_9 : decode cX5_savedStates 9 = .ok (.ireturn, 1) := by decide +kernel
theorem dX5_textLength_0 : decode cX5_textLength 0 = .ok (.aload_n 0, 1) := by decide +kernel
theorem dX5_textLength_1 : decode cX5_textLength 1 = .ok (.iconst 0, 1) := by decide +kernel
theorem dX5_textLength_2 : decode cX5_textLength 2 = .ok (.putfield 32, 3) := by decide +kernel
theorem dX5_textLength_5 : decode cX5_textLength 5 = .ok (.aload_n 0, 1) := by decide +kernel
theorem dX5_textLength_6 : decode cX5_textLength 6 = .ok (.getfield 168, 3) := by decide +kernel
theorem dX5_textLength_9 : decode cX5_textLength 9 = .ok (.ireturn, 1) := by decide +kernel
