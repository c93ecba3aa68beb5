theorem dX4_init_0 : decode cX4_init 0 = .ok (.aload_n 0, 1) := by decide +kernel
theorem dX4_init_1 : decode cX4_init 1 = .ok (.invokespecial 1, 3) := by decide +kernel
theorem dX4_init_4 : decode cX4_init 4 = .ok (.aload_n 0, 1) := by decide +kernel
theorem dX4_init_5 : decode cX4_init 5 = .ok (.new 7, 3) := by decide +kernel
theorem dX4_init_8 : decode cX4_init 8 = .ok (.dup, 1) := by decide +kernel
theorem dX4_init_9 : decode cX4_init 9 = .ok (.invokespecial 9, 3) := by decide +kernel
theorem dX4_init_12 : decode cX4_init 12 = .ok (.putfield 10, 3) := by decide +kernel
theorem dX4_init_15 : decode cX4_init 15 = .ok (.aload_n 0, 1) := by decide +kernel
theorem dX4_init_16 : decode cX4_init 16 = .ok (.new 7, 3) := by decide +kernel
theorem dX4_init_19 : decode cX4_init 19 = .ok (.dup, 1) := by decide +kernel
theorem dX4_init_20 : decode cX4_init 20 = .ok (.invokespecial 9, 3) := by decide +kernel
theorem dX4_init_23 : decode cX4_init 23 = .ok (.putfield 16, 3) := by decide +kernel
theorem dX4_init_26 : decode cX4_init 26 = .ok (.aload_n 0, 1) := by decide +kernel
theorem dX4_init_27 : decode cX4_init 27 = .ok (.new 19, 3) := by decide +kernel
theorem dX4_init_30 : decode cX4_init 30 = .ok (.dup, 1) := by decide +kernel
theorem dX4_init_31 : decode cX4_init 31 = .ok (.invokespecial 21, 3) := by decide +kernel
theorem dX4_init_34 : decode cX4_init 34 = .ok (.putfield 22, 3) := by decide +kernel
theorem dX4_init_37 : decode cX4_init 37 = .ok (.aload_n 0, 1) := by decide +kernel
theorem dX4_init_38 : decode cX4_init 38 = .ok (.new 26, 3) := by decide +kernel
theorem dX4_init_41 : decode cX4_init 41 = .ok (.dup, 1) := by decide +kernel
theorem dX4_init_42 : decode cX4_init 42 = .ok (.invokespecial 28, 3) := by decide +kernel
theorem dX4_init_45 : decode cX4_init 45 = .ok (.putfield 29, 3) := by decide +kernel
theorem dX4_init_48 : decode cX4_init 48 = .ok (.aload_n 0, 1) := by decide +kernel
theorem dX4_init_49 : decode cX4_init 49 = .ok (.new 33, 3) := by decide +kernel
theorem dX4_init_52 : decode cX4_init 52 = .ok (.dup, 1) := by decide +kernel
theorem dX4_init_53 : decode cX4_init 53 = .ok (.invokespecial 35, 3) := by decide +kernel
theorem dX4_init_56 : decode cX4_init 56 = .ok (.putfield 36, 3) := by decide +kernel
theorem dX4_init_59 : decode cX4_init 59 = .ok (.return_, 1) := by decide +kernel
theorem dX4_begin_0 : decode cX4_begin 0 = .ok (.iload_n 1, 1) := by decide +kernel
theorem dX4_begin_1 : decode cX4_begin 1 = .ok (.invokestatic 40, 3) := by decide +kernel
theorem dX4_begin_4 : decode cX4_begin 4 = .ok (.aload_n 0, 1) := by decide +kernel
theorem dX4_begin_5 : decode cX4_begin 5 = .ok (.getfield 10, 3) := by decide +kernel
theorem dX4_begin_8 : decode cX4_begin 8 = .ok (.iload_n 1, 1) := by decide +kernel
theorem dX4_begin_9 : decode cX4_begin 9 = .ok (.invokevirtual 44, 3) := by decide +kernel
theorem dX4_begin_12 : decode cX4_begin 12 = .ok (.ifCond .ne 7, 3) := by decide +kernel
theorem dX4_begin_15 : decode cX4_begin 15 = .ok (.iconst 1, 1) := by decide +kernel
theorem dX4_begin_16 : decode cX4_begin 16 = .ok (.goto 4, 3) := by decide +kernel
theorem dX4_begin_19 : decode cX4_begin 19 = .ok (.iconst 0, 1) := by decide +kernel
theorem dX4_begin_20 : decode cX4_begin 20 = .ok (.invokestatic 48, 3) := by decide +kernel
theorem dX4_begin_23 : decode cX4_begin 23 = .ok (.aload_n 0, 1) := by decide +kernel
theorem dX4_begin_24 : decode cX4_begin 24 = .ok (.getfield 29, 3) := by decide +kernel
theorem dX4_begin_27 : decode cX4_begin 27 = .ok (.aload_n 0, 1) := by decide +kernel
theorem dX4_begin_28 : decode cX4_begin 28 = .ok (.getfield 10, 3) := by decide +kernel
theorem dX4_begin_31 : decode cX4_begin 31 = .ok (.invokevirtual 52, 3) := by decide +kernel
theorem dX4_begin_34 : decode cX4_begin 34 = .ok (.aload_n 0, 1) := by decide +kernel
theorem dX4_begin_35 : decode cX4_begin 35 = .ok (.getfield 10, 3) := by decide +kernel
theorem dX4_begin_38 : decode cX4_begin 38 = .ok (.iload_n 1, 1) := by decide +kernel
theorem dX4_begin_39 : decode cX4_begin 39 = .ok (.invokevirtual 56, 3) := by decide +kernel
theorem dX4_begin_42 : decode cX4_begin 42 = .ok (.aload_n 0, 1) := by decide +kernel
theorem dX4_begin_43 : decode cX4_begin 43 = .ok (.getfield 10, 3) := by decide +kernel
theorem dX4_begin_46 : decode cX4_begin 46 = .ok (.getfield 59, 3) := by decide +kernel
theorem dX4_begin_49 : decode cX4_begin 49 = .ok (.iload_n 1, 1) := by decide +kernel
theorem dX4_begin_50 : decode cX4_begin 50 = .ok (.iaload, 1) := by decide +kernel
theorem dX4_begin_51 : decode cX4_begin 51 = .ok (.ireturn, 1) := by decide +kernel
theorem dX4_request_0 : decode cX4_request 0 = .ok (.iload_n 1, 1) := by decide +kernel
theorem dX4_request_1 : decode cX4_request 1 = .ok (.iload_n 2, 1) := by decide +kernel
theorem dX4_request_2 : decode cX4_request 2 = .ok (.iload_n 3, 1) := by decide +kernel
theorem dX4_request_3 : decode cX4_request 3 = .ok (.invokestatic 63, 3) := by decide +kernel
theorem dX4_request_6 : decode cX4_request 6 = .ok (.aload_n 0, 1) := by decide +kernel
theorem dX4_request_7 : decode cX4_request 7 = .ok (.getfield 10, 3) := by decide +kernel
theorem dX4_request_10 : decode cX4_request 10 = .ok (.iload_n 1, 1) := by decide +kernel
theorem dX4_request_11 : decode cX4_request 11 = .ok (.invokevirtual 44, 3) := by decide +kernel
theorem dX4_request_14 : decode cX4_request 14 = .ok (.iconst 1, 1) := by decide +kernel
theorem dX4_request_15 : decode cX4_request 15 = .ok (.if_icmp .ne 7, 3) := by decide +kernel
theorem dX4_request_18 : decode cX4_request 18 = .ok (.iconst 1, 1) := by decide +kernel
theorem dX4_request_19 : decode cX4_request 19 = .ok (.goto 4, 3) := by decide +kernel
theorem dX4_request_22 : decode cX4_request 22 = .ok (.iconst 0, 1) := by decide +kernel
theorem dX4_request_23 : decode cX4_request 23 = .ok (.invokestatic 48, 3) := by decide +kernel
theorem dX4_request_26 : decode cX4_request 26 = .ok (.aload_n 0, 1) := by decide +kernel
theorem dX4_request_27 : decode cX4_request 27 = .ok (.getfield 29, 3) := by decide +kernel
theorem dX4_request_30 : decode cX4_request 30 = .ok (.aload_n 0, 1) := by decide +kernel
theorem dX4_request_31 : decode cX4_request 31 = .ok (.getfield 10, 3) := by decide +kernel
theorem dX4_request_34 : decode cX4_request 34 = .ok (.invokevirtual 52, 3) := by decide +kernel
theorem dX4_request_37 : decode cX4_request 37 = .ok (.aload_n 0, 1) := by decide +kernel
theorem dX4_request_38 : decode cX4_request 38 = .ok (.aload_n 0, 1) := by decide +kernel
theorem dX4_request_39 : decode cX4_request 39 = .ok (.getfield 10, 3) := by decide +kernel
theorem dX4_request_42 : decode cX4_request 42 = .ok (.iload_n 1, 1) := by decide +kernel
theorem dX4_request_43 : decode cX4_request 43 = .ok (.iload_n 2, 1) := by decide +kernel
theorem dX4_request_44 : decode cX4_request 44 = .ok (.iload_n 3, 1) := by decide +kernel
theorem dX4_request_45 : decode cX4_request 45 = .ok (.invokevirtual 67, 3) := by decide +kernel
theorem dX4_request_48 : decode cX4_request 48 = .ok (.pop, 1) := by decide +kernel
theorem dX4_request_49 : decode cX4_request 49 = .ok (.aload_n 0, 1) := by decide +kernel
theorem dX4_request_50 : decode cX4_request 50 = .ok (.getfield 10, 3) := by decide +kernel
theorem dX4_request_53 : decode cX4_request 53 = .ok (.iload_n 1, 1) := by decide +kernel
theorem dX4_request_54 : decode cX4_request 54 = .ok (.iload_n 2, 1) := by decide +kernel
theorem dX4_request_55 : decode cX4_request 55 = .ok (.iload_n 3, 1) := by decide +kernel
theorem dX4_request_56 : decode cX4_request 56 = .ok (.invokevirtual 71, 3) := by decide +kernel
theorem dX4_request_59 : decode cX4_request 59 = .ok (.ireturn, 1) := by decide +kernel
theorem dX4_work_0 : decode cX4_work 0 = .ok (.iload_n 1, 1) := by decide +kernel
theorem dX4_work_1 : decode cX4_work 1 = .ok (.invokestatic 40, 3) := by decide +kernel
theorem dX4_work_4 : decode cX4_work 4 = .ok (.iload_n 2, 1) := by decide +kernel
theorem dX4_work_5 : decode cX4_work 5 = .ok (.iconst 1, 1) := by decide +kernel
theorem dX4_work_6 : decode cX4_work 6 = .ok (.if_icmp .lt 10, 3) := by decide +kernel
theorem dX4_work_9 : decode cX4_work 9 = .ok (.iload_n 2, 1) := by decide +kernel
theorem dX4_work_10 : decode cX4_work 10 = .ok (.sipush 1000, 3) := by decide +kernel
theorem dX4_work_13 : decode cX4_work 13 = .ok (.if_icmp .le 13, 3) := by decide +kernel
theorem dX4_work_16 : decode cX4_work 16 = .ok (.new 75, 3) := by decide +kernel
theorem dX4_work_19 : decode cX4_work 19 = .ok (.dup, 1) := by decide +kernel
theorem dX4_work_20 : decode cX4_work 20 = .ok (.ldc 77, 2) := by decide +kernel
theorem dX4_work_22 : decode cX4_work 22 = .ok (.invokespecial 79, 3) := by decide +kernel
theorem dX4_work_25 : decode cX4_work 25 = .ok (.athrow, 1) := by decide +kernel
theorem dX4_work_26 : decode cX4_work 26 = .ok (.aload_n 0, 1) := by decide +kernel
theorem dX4_work_27 : decode cX4_work 27 = .ok (.getfield 10, 3) := by decide +kernel
theorem dX4_work_30 : decode cX4_work 30 = .ok (.iload_n 1, 1) := by decide +kernel
theorem dX4_work_31 : decode cX4_work 31 = .ok (.invokevirtual 44, 3) := by decide +kernel
theorem dX4_work_34 : decode cX4_work 34 = .ok (.iconst 1, 1) := by decide +kernel
theorem dX4_work_35 : decode cX4_work 35 = .ok (.if_icmp .ne 7, 3) := by decide +kernel
theorem dX4_work_38 : decode cX4_work 38 = .ok (.iconst 1, 1) := by decide +kernel
theorem dX4_work_39 : decode cX4_work 39 = .ok (.goto 4, 3) := by decide +kernel
theorem dX4_work_42 : decode cX4_work 42 = .ok (.iconst 0, 1) := by decide +kernel
theorem dX4_work_43 : decode cX4_work 43 = .ok (.invokestatic 48, 3) := by decide +kernel
theorem dX4_work_46 : decode cX4_work 46 = .ok (.aload_n 0, 1) := by decide +kernel
theorem dX4_work_47 : decode cX4_work 47 = .ok (.getfield 29, 3) := by decide +kernel
theorem dX4_work_50 : decode cX4_work 50 = .ok (.aload_n 0, 1) := by decide +kernel
theorem dX4_work_51 : decode cX4_work 51 = .ok (.getfield 10, 3) := by decide +kernel
theorem dX4_work_54 : decode cX4_work 54 = .ok (.invokevirtual 52, 3) := by decide +kernel
theorem dX4_work_57 : decode cX4_work 57 = .ok (.aload_n 0, 1) := by decide +kernel
theorem dX4_work_58 : decode cX4_work 58 = .ok (.getfield 10, 3) := by decide +kernel
theorem dX4_work_61 : decode cX4_work 61 = .ok (.getfield 82, 3) := by decide +kernel
theorem dX4_work_64 : decode cX4_work 64 = .ok (.iload_n 1, 1) := by decide +kernel
theorem dX4_work_65 : decode cX4_work 65 = .ok (.dup2, 1) := by decide +kernel
theorem dX4_work_66 : decode cX4_work 66 = .ok (.iaload, 1) := by decide +kernel
theorem dX4_work_67 : decode cX4_work 67 = .ok (.iload_n 2, 1) := by decide +kernel
theorem dX4_work_68 : decode cX4_work 68 = .ok (.iadd, 1) := by decide +kernel
theorem dX4_work_69 : decode cX4_work 69 = .ok (.iastore, 1) := by decide +kernel
theorem dX4_work_70 : decode cX4_work 70 = .ok (.aload_n 0, 1) := by decide +kernel
theorem dX4_work_71 : decode cX4_work 71 = .ok (.getfield 10, 3) := by decide +kernel
theorem dX4_work_74 : decode cX4_work 74 = .ok (.getfield 82, 3) := by decide +kernel
theorem dX4_work_77 : decode cX4_work 77 = .ok (.iload_n 1, 1) := by decide +kernel
theorem dX4_work_78 : decode cX4_work 78 = .ok (.iaload, 1) := by decide +kernel
theorem dX4_work_79 : decode cX4_work 79 = .ok (.ireturn, 1) := by decide +kernel
theorem dX4_withdraw_0 : decode cX4_withdraw 0 = .ok (.iload_n 1, 1) := by decide +kernel
theorem dX4_withdraw_1 : decode cX4_withdraw 1 = .ok (.invokestatic 40, 3) := by decide +kernel
theorem dX4_withdraw_4 : decode cX4_withdraw 4 = .ok (.aload_n 0, 1) := by decide +kernel
theorem dX4_withdraw_5 : decode cX4_withdraw 5 = .ok (.getfield 10, 3) := by decide +kernel
theorem dX4_withdraw_8 : decode cX4_withdraw 8 = .ok (.iload_n 1, 1) := by decide +kernel
theorem dX4_withdraw_9 : decode cX4_withdraw 9 = .ok (.invokevirtual 44, 3) := by decide +kernel
theorem dX4_withdraw_12 : decode cX4_withdraw 12 = .ok (.iconst 2, 1) := by decide +kernel
theorem dX4_withdraw_13 : decode cX4_withdraw 13 = .ok (.if_icmp .ne 7, 3) := by decide +kernel
theorem dX4_withdraw_16 : decode cX4_withdraw 16 = .ok (.iconst 1, 1) := by decide +kernel
theorem dX4_withdraw_17 : decode cX4_withdraw 17 = .ok (.goto 4, 3) := by decide +kernel
theorem dX4_withdraw_20 : decode cX4_withdraw 20 = .ok (.iconst 0, 1) := by decide +kernel
theorem dX4_withdraw_21 : decode cX4_withdraw 21 = .ok (.invokestatic 48, 3) := by decide +kernel
theorem dX4_withdraw_24 : decode cX4_withdraw 24 = .ok (.aload_n 0, 1) := by decide +kernel
theorem dX4_withdraw_25 : decode cX4_withdraw 25 = .ok (.getfield 29, 3) := by decide +kernel
theorem dX4_withdraw_28 : decode cX4_withdraw 28 = .ok (.aload_n 0, 1) := by decide +kernel
theorem dX4_withdraw_29 : decode cX4_withdraw 29 = .ok (.getfield 10, 3) := by decide +kernel
theorem dX4_withdraw_32 : decode cX4_withdraw 32 = .ok (.invokevirtual 52, 3) := by decide +kernel
theorem dX4_withdraw_35 : decode cX4_withdraw 35 = .ok (.aload_n 0, 1) := by decide +kernel
theorem dX4_withdraw_36 : decode cX4_withdraw 36 = .ok (.getfield 10, 3) := by decide +kernel
theorem dX4_withdraw_39 : decode cX4_withdraw 39 = .ok (.iload_n 1, 1) := by decide +kernel
theorem dX4_withdraw_40 : decode cX4_withdraw 40 = .ok (.invokevirtual 85, 3) := by decide +kernel
theorem dX4_withdraw_43 : decode cX4_withdraw 43 = .ok (.ireturn, 1) := by decide +kernel
theorem dX4_commit_0 : decode cX4_commit 0 = .ok (.iload_n 1, 1) := by decide +kernel
theorem dX4_commit_1 : decode cX4_commit 1 = .ok (.invokestatic 40, 3) := by decide +kernel
theorem dX4_commit_4 : decode cX4_commit 4 = .ok (.aload_n 0, 1) := by decide +kernel
theorem dX4_commit_5 : decode cX4_commit 5 = .ok (.getfield 10, 3) := by decide +kernel
theorem dX4_commit_8 : decode cX4_commit 8 = .ok (.iload_n 1, 1) := by decide +kernel
theorem dX4_commit_9 : decode cX4_commit 9 = .ok (.invokevirtual 44, 3) := by decide +kernel
theorem dX4_commit_12 : decode cX4_commit 12 = .ok (.iconst 1, 1) := by decide +kernel
theorem dX4_commit_13 : decode cX4_commit 13 = .ok (.if_icmp .ne 7, 3) := by decide +kernel
theorem dX4_commit_16 : decode cX4_commit 16 = .ok (.iconst 1, 1) := by decide +kernel
theorem dX4_commit_17 : decode cX4_commit 17 = .ok (.goto 4, 3) := by decide +kernel
theorem dX4_commit_20 : decode cX4_commit 20 = .ok (.iconst 0, 1) := by decide +kernel
theorem dX4_commit_21 : decode cX4_commit 21 = .ok (.invokestatic 48, 3) := by decide +kernel
theorem dX4_commit_24 : decode cX4_commit 24 = .ok (.aload_n 0, 1) := by decide +kernel
theorem dX4_commit_25 : decode cX4_commit 25 = .ok (.getfield 29, 3) := by decide +kernel
theorem dX4_commit_28 : decode cX4_commit 28 = .ok (.aload_n 0, 1) := by decide +kernel
theorem dX4_commit_29 : decode cX4_commit 29 = .ok (.getfield 10, 3) := by decide +kernel
theorem dX4_commit_32 : decode cX4_commit 32 = .ok (.invokevirtual 52, 3) := by decide +kernel
theorem dX4_commit_35 : decode cX4_commit 35 = .ok (.aload_n 0, 1) := by decide +kernel
theorem dX4_commit_36 : decode cX4_commit 36 = .ok (.getfield 10, 3) := by decide +kernel
theorem dX4_commit_39 : decode cX4_commit 39 = .ok (.iload_n 1, 1) := by decide +kernel
theorem dX4_commit_40 : decode cX4_commit 40 = .ok (.invokevirtual 88, 3) := by decide +kernel
theorem dX4_commit_43 : decode cX4_commit 43 = .ok (.ireturn, 1) := by decide +kernel
theorem dX4_rollBack_0 : decode cX4_rollBack 0 = .ok (.iload_n 1, 1) := by decide +kernel
theorem dX4_rollBack_1 : decode cX4_rollBack 1 = .ok (.invokestatic 40, 3) := by decide +kernel
theorem dX4_rollBack_4 : decode cX4_rollBack 4 = .ok (.aload_n 0, 1) := by decide +kernel
theorem dX4_rollBack_5 : decode cX4_rollBack 5 = .ok (.getfield 10, 3) := by decide +kernel
theorem dX4_rollBack_8 : decode cX4_rollBack 8 = .ok (.iload_n 1, 1) := by decide +kernel
theorem dX4_rollBack_9 : decode cX4_rollBack 9 = .ok (.invokevirtual 44, 3) := by decide +kernel
theorem dX4_rollBack_12 : decode cX4_rollBack 12 = .ok (.ifCond .eq 7, 3) := by decide +kernel
theorem dX4_rollBack_15 : decode cX4_rollBack 15 = .ok (.iconst 1, 1) := by decide +kernel
theorem dX4_rollBack_16 : decode cX4_rollBack 16 = .ok (.goto 4, 3) := by decide +kernel
theorem dX4_rollBack_19 : decode cX4_rollBack 19 = .ok (.iconst 0, 1) := by decide +kernel
theorem dX4_rollBack_20 : decode cX4_rollBack 20 = .ok (.invokestatic 48, 3) := by decide +kernel
theorem dX4_rollBack_23 : decode cX4_rollBack 23 = .ok (.aload_n 0, 1) := by decide +kernel
theorem dX4_rollBack_24 : decode cX4_rollBack 24 = .ok (.getfield 29, 3) := by decide +kernel
theorem dX4_rollBack_27 : decode cX4_rollBack 27 = .ok (.aload_n 0, 1) := by decide +kernel
theorem dX4_rollBack_28 : decode cX4_rollBack 28 = .ok (.getfield 10, 3) := by decide +kernel
theorem dX4_rollBack_31 : decode cX4_rollBack 31 = .ok (.invokevirtual 52, 3) := by decide +kernel
theorem dX4_rollBack_34 : decode cX4_rollBack 34 = .ok (.aload_n 0, 1) := by decide +kernel
theorem dX4_rollBack_35 : decode cX4_rollBack 35 = .ok (.getfield 10, 3) := by decide +kernel
theorem dX4_rollBack_38 : decode cX4_rollBack 38 = .ok (.iload_n 1, 1) := by decide +kernel
theorem dX4_rollBack_39 : decode cX4_rollBack 39 = .ok (.invokevirtual 88, 3) := by decide +kernel
theorem dX4_rollBack_42 : decode cX4_rollBack 42 = .ok (.ireturn, 1) := by decide +kernel
theorem dX4_state_0 : decode cX4_state 0 = .ok (.iload_n 1, 1) := by decide +kernel
theorem dX4_state_1 : decode cX4_state 1 = .ok (.invokestatic 40, 3) := by decide +kernel
theorem dX4_state_4 : decode cX4_state 4 = .ok (.aload_n 0, 1) := by decide +kernel
theorem dX4_state_5 : decode cX4_state 5 = .ok (.getfield 10, 3) := by decide +kernel
theorem dX4_state_8 : decode cX4_state 8 = .ok (.iload_n 1, 1) := by decide +kernel
theorem dX4_state_9 : decode cX4_state 9 = .ok (.invokevirtual 44, 3) := by decide +kernel
theorem dX4_state_12 : decode cX4_state 12 = .ok (.ireturn, 1) := by decide +kernel
theorem dX4_workOf_0 : decode cX4_workOf 0 = .ok (.iload_n 1, 1) := by decide +kernel
theorem dX4_workOf_1 : decode cX4_workOf 1 = .ok (.invokestatic 40, 3) := by decide +kernel
theorem dX4_workOf_4 : decode cX4_workOf 4 = .ok (.aload_n 0, 1) := by decide +kernel
theorem dX4_workOf_5 : decode cX4_workOf 5 = .ok (.getfield 10, 3) := by decide +kernel
theorem dX4_workOf_8 : decode cX4_workOf 8 = .ok (.getfield 82, 3) := by decide +kernel
theorem dX4_workOf_11 : decode cX4_workOf 11 = .ok (.iload_n 1, 1) := by decide +kernel
theorem dX4_workOf_12 : decode cX4_workOf 12 = .ok (.iaload, 1) := by decide +kernel
theorem dX4_workOf_13 : decode cX4_workOf 13 = .ok (.ireturn, 1) := by decide +kernel
theorem dX4_abortsOf_0 : decode cX4_abortsOf 0 = .ok (.iload_n 1, 1) := by decide +kernel
theorem dX4_abortsOf_1 : decode cX4_abortsOf 1 = .ok (.invokestatic 40, 3) := by decide +kernel
theorem dX4_abortsOf_4 : decode cX4_abortsOf 4 = .ok (.aload_n 0, 1) := by decide +kernel
theorem dX4_abortsOf_5 : decode cX4_abortsOf 5 = .ok (.getfield 10, 3) := by decide +kernel
theorem dX4_abortsOf_8 : decode cX4_abortsOf 8 = .ok (.getfield 146, 3) := by decide +kernel
theorem dX4_abortsOf_11 : decode cX4_abortsOf 11 = .ok (.iload_n 1, 1) := by decide +kernel
theorem dX4_abortsOf_12 : decode cX4_abortsOf 12 = .ok (.iaload, 1) := by decide +kernel
theorem dX4_abortsOf_13 : decode cX4_abortsOf 13 = .ok (.ireturn, 1) := by decide +kernel
theorem dX4_birthOf_0 : decode cX4_birthOf 0 = .ok (.iload_n 1, 1) := by decide +kernel
theorem dX4_birthOf_1 : decode cX4_birthOf 1 = .ok (.invokestatic 40, 3) := by decide +kernel
theorem dX4_birthOf_4 : decode cX4_birthOf 4 = .ok (.aload_n 0, 1) := by decide +kernel
theorem dX4_birthOf_5 : decode cX4_birthOf 5 = .ok (.getfield 10, 3) := by decide +kernel
theorem dX4_birthOf_8 : decode cX4_birthOf 8 = .ok (.getfield 59, 3) := by decide +kernel
theorem dX4_birthOf_11 : decode cX4_birthOf 11 = .ok (.iload_n 1, 1) := by decide +kernel
theorem dX4_birthOf_12 : decode cX4_birthOf 12 = .ok (.iaload, 1) := by decide +kernel
theorem dX4_birthOf_13 : decode cX4_birthOf 13 = .ok (.ireturn, 1) := by decide +kernel
theorem dX4_held_0 : decode cX4_held 0 = .ok (.iload_n 1, 1) := by decide +kernel
theorem dX4_held_1 : decode cX4_held 1 = .ok (.invokestatic 40, 3) := by decide +kernel
theorem dX4_held_4 : decode cX4_held 4 = .ok (.iload_n 2, 1) := by decide +kernel
theorem dX4_held_5 : decode cX4_held 5 = .ok (.invokestatic 149, 3) := by decide +kernel
theorem dX4_held_8 : decode cX4_held 8 = .ok (.aload_n 0, 1) := by decide +kernel
theorem dX4_held_9 : decode cX4_held 9 = .ok (.getfield 10, 3) := by decide +kernel
theorem dX4_held_12 : decode cX4_held 12 = .ok (.getfield 152, 3) := by decide +kernel
theorem dX4_held_15 : decode cX4_held 15 = .ok (.iload_n 1, 1) := by decide +kernel
theorem dX4_held_16 : decode cX4_held 16 = .ok (.bipush 10, 2) := by decide +kernel
theorem dX4_held_18 : decode cX4_held 18 = .ok (.imul, 1) := by decide +kernel
theorem dX4_held_19 : decode cX4_held 19 = .ok (.iload_n 2, 1) := by decide +kernel
theorem dX4_held_20 : decode cX4_held 20 = .ok (.iadd, 1) := by decide +kernel
theorem dX4_held_21 : decode cX4_held 21 = .ok (.iaload, 1) := by decide +kernel
theorem dX4_held_22 : decode cX4_held 22 = .ok (.ireturn, 1) := by decide +kernel
theorem dX4_awaited_0 : decode cX4_awaited 0 = .ok (.iload_n 1, 1) := by decide +kernel
theorem dX4_awaited_1 : decode cX4_awaited 1 = .ok (.invokestatic 40, 3) := by decide +kernel
theorem dX4_awaited_4 : decode cX4_awaited 4 = .ok (.aload_n 0, 1) := by decide +kernel
theorem dX4_awaited_5 : decode cX4_awaited 5 = .ok (.getfield 10, 3) := by decide +kernel
theorem dX4_awaited_8 : decode cX4_awaited 8 = .ok (.getfield 155, 3) := by decide +kernel
theorem dX4_awaited_11 : decode cX4_awaited 11 = .ok (.iload_n 1, 1) := by decide +kernel
theorem dX4_awaited_12 : decode cX4_awaited 12 = .ok (.iaload, 1) := by decide +kernel
theorem dX4_awaited_13 : decode cX4_awaited 13 = .ok (.ireturn, 1) := by decide +kernel
theorem dX4_waitsFor_0 : decode cX4_waitsFor 0 = .ok (.iload_n 1, 1) := by decide +kernel
theorem dX4_waitsFor_1 : decode cX4_waitsFor 1 = .ok (.invokestatic 40, 3) := by decide +kernel
theorem dX4_waitsFor_4 : decode cX4_waitsFor 4 = .ok (.aload_n 0, 1) := by decide +kernel
theorem dX4_waitsFor_5 : decode cX4_waitsFor 5 = .ok (.getfield 10, 3) := by decide +kernel
theorem dX4_waitsFor_8 : decode cX4_waitsFor 8 = .ok (.iload_n 1, 1) := by decide +kernel
theorem dX4_waitsFor_9 : decode cX4_waitsFor 9 = .ok (.invokevirtual 158, 3) := by decide +kernel
theorem dX4_waitsFor_12 : decode cX4_waitsFor 12 = .ok (.ireturn, 1) := by decide +kernel
theorem dX4_blockers_0 : decode cX4_blockers 0 = .ok (.iload_n 1, 1) := by decide +kernel
theorem dX4_blockers_1 : decode cX4_blockers 1 = .ok (.invokestatic 40, 3) := by decide +kernel
theorem dX4_blockers_4 : decode cX4_blockers 4 = .ok (.aload_n 0, 1) := by decide +kernel
theorem dX4_blockers_5 : decode cX4_blockers 5 = .ok (.getfield 10, 3) := by decide +kernel
theorem dX4_blockers_8 : decode cX4_blockers 8 = .ok (.iload_n 1, 1) := by decide +kernel
theorem dX4_blockers_9 : decode cX4_blockers 9 = .ok (.invokevirtual 161, 3) := by decide +kernel
theorem dX4_blockers_12 : decode cX4_blockers 12 = .ok (.iconst 1, 1) := by decide +kernel
theorem dX4_blockers_13 : decode cX4_blockers 13 = .ok (.iload_n 1, 1) := by decide +kernel
theorem dX4_blockers_14 : decode cX4_blockers 14 = .ok (.ishl, 1) := by decide +kernel
theorem dX4_blockers_15 : decode cX4_blockers 15 = .ok (.iconst (-1), 1) := by decide +kernel
theorem dX4_blockers_16 : decode cX4_blockers 16 = .ok (.ixor, 1) := by decide +kernel
theorem dX4_blockers_17 : decode cX4_blockers 17 = .ok (.iand, 1) := by decide +kernel
theorem dX4_blockers_18 : decode cX4_blockers 18 = .ok (.invokestatic 164, 3) := by decide +kernel
theorem dX4_blockers_21 : decode cX4_blockers 21 = .ok (.ireturn, 1) := by decide +kernel
theorem dX4_holders_0 : decode cX4_holders 0 = .ok (.iload_n 1, 1) := by decide +kernel
theorem dX4_holders_1 : decode cX4_holders 1 = .ok (.invokestatic 149, 3) := by decide +kernel
theorem dX4_holders_4 : decode cX4_holders 4 = .ok (.aload_n 0, 1) := by decide +kernel
theorem dX4_holders_5 : decode cX4_holders 5 = .ok (.getfield 10, 3) := by decide +kernel
theorem dX4_holders_8 : decode cX4_holders 8 = .ok (.iload_n 1, 1) := by decide +kernel
theorem dX4_holders_9 : decode cX4_holders 9 = .ok (.invokevirtual 169, 3) := by decide +kernel
theorem dX4_holders_12 : decode cX4_holders 12 = .ok (.ireturn, 1) := by decide +kernel
theorem dX4_queueLength_0 : decode cX4_queueLength 0 = .ok (.iload_n 1, 1) := by decide +kernel
theorem dX4_queueLength_1 : decode cX4_queueLength 1 = .ok (.invokestatic 149, 3) := by decide +kernel
theorem dX4_queueLength_4 : decode cX4_queueLength 4 = .ok (.aload_n 0, 1) := by decide +kernel
theorem dX4_queueLength_5 : decode cX4_queueLength 5 = .ok (.getfield 10, 3) := by decide +kernel
theorem dX4_queueLength_8 : decode cX4_queueLength 8 = .ok (.getfield 172, 3) := by decide +kernel
theorem dX4_queueLength_11 : decode cX4_queueLength 11 = .ok (.iload_n 1, 1) := by decide +kernel
theorem dX4_queueLength_12 : decode cX4_queueLength 12 = .ok (.iaload, 1) := by decide +kernel
theorem dX4_queueLength_13 : decode cX4_queueLength 13 = .ok (.ireturn, 1) := by decide +kernel
theorem dX4_queued_0 : decode cX4_queued 0 = .ok (.iload_n 1, 1) := by decide +kernel
theorem dX4_queued_1 : decode cX4_queued 1 = .ok (.invokestatic 149, 3) := by decide +kernel
theorem dX4_queued_4 : decode cX4_queued 4 = .ok (.iload_n 2, 1) := by decide +kernel
theorem dX4_queued_5 : decode cX4_queued 5 = .ok (.ifCond .ge 13, 3) := by decide +kernel
theorem dX4_queued_8 : decode cX4_queued 8 = .ok (.new 175, 3) := by decide +kernel
theorem dX4_queued_11 : decode cX4_queued 11 = .ok (.dup, 1) := by decide +kernel
theorem dX4_queued_12 : decode cX4_queued 12 = .ok (.ldc 177, 2) := by decide +kernel
theorem dX4_queued_14 : decode cX4_queued 14 = .ok (.invokespecial 179, 3) := by decide +kernel
theorem dX4_queued_17 : decode cX4_queued 17 = .ok (.athrow, 1) := by decide +kernel
theorem dX4_queued_18 : decode cX4_queued 18 = .ok (.iload_n 2, 1) := by decide +kernel
theorem dX4_queued_19 : decode cX4_queued 19 = .ok (.aload_n 0, 1) := by decide +kernel
theorem dX4_queued_20 : decode cX4_queued 20 = .ok (.getfield 10, 3) := by decide +kernel
theorem dX4_queued_23 : decode cX4_queued 23 = .ok (.getfield 172, 3) := by decide +kernel
theorem dX4_queued_26 : decode cX4_queued 26 = .ok (.iload_n 1, 1) := by decide +kernel
theorem dX4_queued_27 : decode cX4_queued 27 = .ok (.iaload, 1) := by decide +kernel
theorem dX4_queued_28 : decode cX4_queued 28 = .ok (.if_icmp .lt 5, 3) := by decide +kernel
theorem dX4_queued_31 : decode cX4_queued 31 = .ok (.iconst (-1), 1) := by decide +kernel
theorem dX4_queued_32 : decode cX4_queued 32 = .ok (.ireturn, 1) := by decide +kernel
theorem dX4_queued_33 : decode cX4_queued 33 = .ok (.aload_n 0, 1) := by decide +kernel
theorem dX4_queued_34 : decode cX4_queued 34 = .ok (.getfield 10, 3) := by decide +kernel
theorem dX4_queued_37 : decode cX4_queued 37 = .ok (.getfield 180, 3) := by decide +kernel
theorem dX4_queued_40 : decode cX4_queued 40 = .ok (.iload_n 1, 1) := by decide +kernel
theorem dX4_queued_41 : decode cX4_queued 41 = .ok (.bipush 8, 2) := by decide +kernel
theorem dX4_queued_43 : decode cX4_queued 43 = .ok (.imul, 1) := by decide +kernel
theorem dX4_queued_44 : decode cX4_queued 44 = .ok (.iload_n 2, 1) := by decide +kernel
theorem dX4_queued_45 : decode cX4_queued 45 = .ok (.iadd, 1) := by decide +kernel
theorem dX4_queued_46 : decode cX4_queued 46 = .ok (.iaload, 1) := by decide +kernel
theorem dX4_queued_47 : decode cX4_queued 47 = .ok (.istore_n 3, 1) := by decide +kernel
theorem dX4_queued_48 : decode cX4_queued 48 = .ok (.bipush 10, 2) := by decide +kernel
theorem dX4_queued_50 : decode cX4_queued 50 = .ok (.iload_n 3, 1) := by decide +kernel
theorem dX4_queued_51 : decode cX4_queued 51 = .ok (.imul, 1) := by decide +kernel
theorem dX4_queued_52 : decode cX4_queued 52 = .ok (.aload_n 0, 1) := by decide +kernel
theorem dX4_queued_53 : decode cX4_queued 53 = .ok (.getfield 10, 3) := by decide +kernel
theorem dX4_queued_56 : decode cX4_queued 56 = .ok (.getfield 183, 3) := by decide +kernel
theorem dX4_queued_59 : decode cX4_queued 59 = .ok (.iload_n 3, 1) := by decide +kernel
theorem dX4_queued_60 : decode cX4_queued 60 = .ok (.iaload, 1) := by decide +kernel
theorem dX4_queued_61 : decode cX4_queued 61 = .ok (.iadd, 1) := by decide +kernel
theorem dX4_queued_62 : decode cX4_queued 62 = .ok (.ireturn, 1) := by decide +kernel
theorem dX4_ifRequested_0 : decode cX4_ifRequested 0 = .ok (.iload_n 1, 1) := by decide +kernel
theorem dX4_ifRequested_1 : decode cX4_ifRequested 1 = .ok (.iload_n 2, 1) := by decide +kernel
theorem dX4_ifRequested_2 : decode cX4_ifRequested 2 = .ok (.iload_n 3, 1) := by decide +kernel
theorem dX4_ifRequested_3 : decode cX4_ifRequested 3 = .ok (.invokestatic 63, 3) := by decide +kernel
theorem dX4_ifRequested_6 : decode cX4_ifRequested 6 = .ok (.aload_n 0, 1) := by decide +kernel
theorem dX4_ifRequested_7 : decode cX4_ifRequested 7 = .ok (.getfield 10, 3) := by decide +kernel
theorem dX4_ifRequested_10 : decode cX4_ifRequested 10 = .ok (.iload_n 1, 1) := by decide +kernel
theorem dX4_ifRequested_11 : decode cX4_ifRequested 11 = .ok (.invokevirtual 44, 3) := by decide +kernel
theorem dX4_ifRequested_14 : decode cX4_ifRequested 14 = .ok (.iconst 1, 1) := by decide +kernel
theorem dX4_ifRequested_15 : decode cX4_ifRequested 15 = .ok (.if_icmp .eq 5, 3) := by decide +kernel
theorem dX4_ifRequested_18 : decode cX4_ifRequested 18 = .ok (.iconst (-1), 1) := by decide +kernel
theorem dX4_ifRequested_19 : decode cX4_ifRequested 19 = .ok (.ireturn, 1) := by decide +kernel
theorem dX4_ifRequested_20 : decode cX4_ifRequested 20 = .ok (.aload_n 0, 1) := by decide +kernel
theorem dX4_ifRequested_21 : decode cX4_ifRequested 21 = .ok (.getfield 16, 3) := by decide +kernel
theorem dX4_ifRequested_24 : decode cX4_ifRequested 24 = .ok (.aload_n 0, 1) := by decide +kernel
theorem dX4_ifRequested_25 : decode cX4_ifRequested 25 = .ok (.getfield 10, 3) := by decide +kernel
theorem dX4_ifRequested_28 : decode cX4_ifRequested 28 = .ok (.invokevirtual 186, 3) := by decide +kernel
theorem dX4_ifRequested_31 : decode cX4_ifRequested 31 = .ok (.aload_n 0, 1) := by decide +kernel
theorem dX4_ifRequested_32 : decode cX4_ifRequested 32 = .ok (.aload_n 0, 1) := by decide +kernel
theorem dX4_ifRequested_33 : decode cX4_ifRequested 33 = .ok (.getfield 16, 3) := by decide +kernel
theorem dX4_ifRequested_36 : decode cX4_ifRequested 36 = .ok (.iload_n 1, 1) := by decide +kernel
theorem dX4_ifRequested_37 : decode cX4_ifRequested 37 = .ok (.iload_n 2, 1) := by decide +kernel
theorem dX4_ifRequested_38 : decode cX4_ifRequested 38 = .ok (.iload_n 3, 1) := by decide +kernel
theorem dX4_ifRequested_39 : decode cX4_ifRequested 39 = .ok (.invokevirtual 67, 3) := by decide +kernel
theorem dX4_ifRequested_42 : decode cX4_ifRequested 42 = .ok (.pop, 1) := by decide +kernel
theorem dX4_ifRequested_43 : decode cX4_ifRequested 43 = .ok (.aload_n 0, 1) := by decide +kernel
theorem dX4_ifRequested_44 : decode cX4_ifRequested 44 = .ok (.getfield 16, 3) := by decide +kernel
theorem dX4_ifRequested_47 : decode cX4_ifRequested 47 = .ok (.iload_n 1, 1) := by decide +kernel
theorem dX4_ifRequested_48 : decode cX4_ifRequested 48 = .ok (.iload_n 2, 1) := by decide +kernel
theorem dX4_ifRequested_49 : decode cX4_ifRequested 49 = .ok (.iload_n 3, 1) := by decide +kernel
theorem dX4_ifRequested_50 : decode cX4_ifRequested 50 = .ok (.invokevirtual 71, 3) := by decide +kernel
theorem dX4_ifRequested_53 : decode cX4_ifRequested 53 = .ok (.ireturn, 1) := by decide +kernel
theorem dX4_victimsOf_0 : decode cX4_victimsOf 0 = .ok (.iload_n 1, 1) := by decide +kernel
theorem dX4_victimsOf_1 : decode cX4_victimsOf 1 = .ok (.iload_n 2, 1) := by decide +kernel
theorem dX4_victimsOf_2 : decode cX4_victimsOf 2 = .ok (.iload_n 3, 1) := by decide +kernel
theorem dX4_victimsOf_3 : decode cX4_victimsOf 3 = .ok (.invokestatic 63, 3) := by decide +kernel
theorem dX4_victimsOf_6 : decode cX4_victimsOf 6 = .ok (.aload_n 0, 1) := by decide +kernel
theorem dX4_victimsOf_7 : decode cX4_victimsOf 7 = .ok (.getfield 10, 3) := by decide +kernel
theorem dX4_victimsOf_10 : decode cX4_victimsOf 10 = .ok (.iload_n 1, 1) := by decide +kernel
theorem dX4_victimsOf_11 : decode cX4_victimsOf 11 = .ok (.invokevirtual 44, 3) := by decide +kernel
theorem dX4_victimsOf_14 : decode cX4_victimsOf 14 = .ok (.iconst 1, 1) := by decide +kernel
theorem dX4_victimsOf_15 : decode cX4_victimsOf 15 = .ok (.if_icmp .eq 5, 3) := by decide +kernel
theorem dX4_victimsOf_18 : decode cX4_victimsOf 18 = .ok (.iconst 0, 1) := by decide +kernel
theorem dX4_victimsOf_19 : decode cX4_victimsOf 19 = .ok (.ireturn, 1) := by decide +kernel
theorem dX4_victimsOf_20 : decode cX4_victimsOf 20 = .ok (.aload_n 0, 1) := by decide +kernel
theorem dX4_victimsOf_21 : decode cX4_victimsOf 21 = .ok (.getfield 16, 3) := by decide +kernel
theorem dX4_victimsOf_24 : decode cX4_victimsOf 24 = .ok (.aload_n 0, 1) := by decide +kernel
theorem dX4_victimsOf_25 : decode cX4_victimsOf 25 = .ok (.getfield 10, 3) := by decide +kernel
theorem dX4_victimsOf_28 : decode cX4_victimsOf 28 = .ok (.invokevirtual 186, 3) := by decide +kernel
theorem dX4_victimsOf_31 : decode cX4_victimsOf 31 = .ok (.aload_n 0, 1) := by decide +kernel
theorem dX4_victimsOf_32 : decode cX4_victimsOf 32 = .ok (.aload_n 0, 1) := by decide +kernel
theorem dX4_victimsOf_33 : decode cX4_victimsOf 33 = .ok (.getfield 16, 3) := by decide +kernel
theorem dX4_victimsOf_36 : decode cX4_victimsOf 36 = .ok (.iload_n 1, 1) := by decide +kernel
theorem dX4_victimsOf_37 : decode cX4_victimsOf 37 = .ok (.iload_n 2, 1) := by decide +kernel
theorem dX4_victimsOf_38 : decode cX4_victimsOf 38 = .ok (.iload_n 3, 1) := by decide +kernel
theorem dX4_victimsOf_39 : decode cX4_victimsOf 39 = .ok (.invokevirtual 67, 3) := by decide +kernel
theorem dX4_victimsOf_42 : decode cX4_victimsOf 42 = .ok (.ireturn, 1) := by decide +kernel
theorem dX4_brokenRings_0 : decode cX4_brokenRings 0 = .ok (.aload_n 0, 1) := by decide +kernel
theorem dX4_brokenRings_1 : decode cX4_brokenRings 1 = .ok (.getfield 10, 3) := by decide +kernel
theorem dX4_brokenRings_4 : decode cX4_brokenRings 4 = .ok (.getfield 189, 3) := by decide +kernel
theorem dX4_brokenRings_7 : decode cX4_brokenRings 7 = .ok (.ireturn, 1) := by decide +kernel
theorem dX4_lostWork_0 : decode cX4_lostWork 0 = .ok (.aload_n 0, 1) := by decide +kernel
theorem dX4_lostWork_1 : decode cX4_lostWork 1 = .ok (.getfield 10, 3) := by decide +kernel
theorem dX4_lostWork_4 : decode cX4_lostWork 4 = .ok (.getfield 192, 3) := by decide +kernel
theorem dX4_lostWork_7 : decode cX4_lostWork 7 = .ok (.ireturn, 1) := by decide +kernel
theorem dX4_locksHeld_0 : decode cX4_locksHeld 0 = .ok (.iconst 0, 1) := by decide +kernel
theorem dX4_locksHeld_1 : decode cX4_locksHeld 1 = .ok (.istore_n 1, 1) := by decide +kernel
theorem dX4_locksHeld_2 : decode cX4_locksHeld 2 = .ok (.iconst 0, 1) := by decide +kernel
theorem dX4_locksHeld_3 : decode cX4_locksHeld 3 = .ok (.istore_n 2, 1) := by decide +kernel
theorem dX4_locksHeld_4 : decode cX4_locksHeld 4 = .ok (.iload_n 2, 1) := by decide +kernel
theorem dX4_locksHeld_5 : decode cX4_locksHeld 5 = .ok (.bipush 10, 2) := by decide +kernel
theorem dX4_locksHeld_7 : decode cX4_locksHeld 7 = .ok (.if_icmp .ge 23, 3) := by decide +kernel
theorem dX4_locksHeld_10 : decode cX4_locksHeld 10 = .ok (.iload_n 1, 1) := by decide +kernel
theorem dX4_locksHeld_11 : decode cX4_locksHeld 11 = .ok (.aload_n 0, 1) := by decide +kernel
theorem dX4_locksHeld_12 : decode cX4_locksHeld 12 = .ok (.getfield 10, 3) := by decide +kernel
theorem dX4_locksHeld_15 : decode cX4_locksHeld 15 = .ok (.iload_n 2, 1) := by decide +kernel
theorem dX4_locksHeld_16 : decode cX4_locksHeld 16 = .ok (.invokevirtual 169, 3) := by decide +kernel
theorem dX4_locksHeld_19 : decode cX4_locksHeld 19 = .ok (.invokestatic 164, 3) := by decide +kernel
theorem dX4_locksHeld_22 : decode cX4_locksHeld 22 = .ok (.iadd, 1) := by decide +kernel
theorem dX4_locksHeld_23 : decode cX4_locksHeld 23 = .ok (.istore_n 1, 1) := by decide +kernel
theorem dX4_locksHeld_24 : decode cX4_locksHeld 24 = .ok (.iinc 2 1, 3) := by decide +kernel
theorem dX4_locksHeld_27 : decode cX4_locksHeld 27 = .ok (.goto (-23), 3) := by decide +kernel
theorem dX4_locksHeld_30 : decode cX4_locksHeld 30 = .ok (.iload_n 1, 1) := by decide +kernel
theorem dX4_locksHeld_31 : decode cX4_locksHeld 31 = .ok (.ireturn, 1) := by decide +kernel
theorem dX4_savedStates_0 : decode cX4_savedStates 0 = .ok (.aload_n 0, 1) := by decide +kernel
theorem dX4_savedStates_1 : decode cX4_savedStates 1 = .ok (.getfield 29, 3) := by decide +kernel
theorem dX4_savedStates_4 : decode cX4_savedStates 4 = .ok (.getfield 138, 3) := by decide +kernel
theorem dX4_savedStates_7 : decode cX4_savedStates 7 = .ok (.ireturn, 1) := by decide +kernel
theorem dX4_requireTransaction_0 : decode cX4_requireTransaction 0 = .ok (.iload_n 0, 1) := by decide +kernel
theorem dX4_requireTransaction_1 : decode cX4_requireTransaction 1 = .ok (.ifCond .lt 9, 3) := by decide +kernel
theorem dX4_requireTransaction_4 : decode cX4_requireTransaction 4 = .ok (.iload_n 0, 1) := by decide +kernel
theorem dX4_requireTransaction_5 : decode cX4_requireTransaction 5 = .ok (.bipush 8, 2) := by decide +kernel
theorem dX4_requireTransaction_7 : decode cX4_requireTransaction 7 = .ok (.if_icmp .lt 13, 3) := by decide +kernel
theorem dX4_requireTransaction_10 : decode cX4_requireTransaction 10 = .ok (.new 175, 3) := by decide +kernel
theorem dX4_requireTransaction_13 : decode cX4_requireTransaction 13 = .ok (.dup, 1) := by decide +kernel
theorem dX4_requireTransaction_14 : decode cX4_requireTransaction 14 = .ok (.ldc 195, 2) := by decide +kernel
theorem dX4_requireTransaction_16 : decode cX4_requireTransaction 16 = .ok (.invokespecial 179, 3) := by decide +kernel
theorem dX4_requireTransaction_19 : decode cX4_requireTransaction 19 = .ok (.athrow, 1) := by decide +kernel
theorem dX4_requireTransaction_20 : decode cX4_requireTransaction 20 = .ok (.return_, 1) := by decide +kernel
theorem dX4_requireResource_0 : decode cX4_requireResource 0 = .ok (.iload_n 0, 1) := by decide +kernel
theorem dX4_requireResource_1 : decode cX4_requireResource 1 = .ok (.ifCond .lt 9, 3) := by decide +kernel
theorem dX4_requireResource_4 : decode cX4_requireResource 4 = .ok (.iload_n 0, 1) := by decide +kernel
theorem dX4_requireResource_5 : decode cX4_requireResource 5 = .ok (.bipush 10, 2) := by decide +kernel
theorem dX4_requireResource_7 : decode cX4_requireResource 7 = .ok (.if_icmp .lt 13, 3) := by decide +kernel
theorem dX4_requireResource_10 : decode cX4_requireResource 10 = .ok (.new 175, 3) := by decide +kernel
theorem dX4_requireResource_13 : decode cX4_requireResource 13 = .ok (.dup, 1) := by decide +kernel
theorem dX4_requireResource_14 : decode cX4_requireResource 14 = .ok (.ldc 197, 2) := by decide +kernel
theorem dX4_requireResource_16 : decode cX4_requireResource 16 = .ok (.invokespecial 179, 3) := by decide +kernel
theorem dX4_requireResource_19 : decode cX4_requireResource 19 = .ok (.athrow, 1) := by decide +kernel
theorem dX4_requireResource_20 : decode cX4_requireResource 20 = .ok (.return_, 1) := by decide +kernel
theorem dX4_requireRequest_0 : decode cX4_requireRequest 0 = .ok (.iload_n 0, 1) := by decide +kernel
theorem dX4_requireRequest_1 : decode cX4_requireRequest 1 = .ok (.invokestatic 40, 3) := by decide +kernel
theorem dX4_requireRequest_4 : decode cX4_requireRequest 4 = .ok (.iload_n 1, 1) := by decide +kernel
theorem dX4_requireRequest_5 : decode cX4_requireRequest 5 = .ok (.invokestatic 149, 3) := by decide +kernel
theorem dX4_requireRequest_8 : decode cX4_requireRequest 8 = .ok (.iload_n 2, 1) := by decide +kernel
theorem dX4_requireRequest_9 : decode cX4_requireRequest 9 = .ok (.iconst 1, 1) := by decide +kernel
theorem dX4_requireRequest_10 : decode cX4_requireRequest 10 = .ok (.if_icmp .eq 18, 3) := by decide +kernel
theorem dX4_requireRequest_13 : decode cX4_requireRequest 13 = .ok (.iload_n 2, 1) := by decide +kernel
theorem dX4_requireRequest_14 : decode cX4_requireRequest 14 = .ok (.iconst 2, 1) := by decide +kernel
theorem dX4_requireRequest_15 : decode cX4_requireRequest 15 = .ok (.if_icmp .eq 13, 3) := by decide +kernel
theorem dX4_requireRequest_18 : decode cX4_requireRequest 18 = .ok (.new 75, 3) := by decide +kernel
theorem dX4_requireRequest_21 : decode cX4_requireRequest 21 = .ok (.dup, 1) := by decide +kernel
theorem dX4_requireRequest_22 : decode cX4_requireRequest 22 = .ok (.ldc 199, 2) := by decide +kernel
theorem dX4_requireRequest_24 : decode cX4_requireRequest 24 = .ok (.invokespecial 79, 3) := by decide +kernel
theorem dX4_requireRequest_27 : decode cX4_requireRequest 27 = .ok (.athrow, 1) := by decide +kernel
theorem dX4_requireRequest_28 : decode cX4_requireRequest 28 = .ok (.return_, 1) := by decide +kernel
theorem dX4_requireState_0 : decode cX4_requireState 0 = .ok (.iload_n 0, 1) := by decide +kernel
theorem dX4_requireState_1 : decode cX4_requireState 1 = .ok (.ifCond .ne 13, 3) := by decide +kernel
theorem dX4_requireState_4 : decode cX4_requireState 4 = .ok (.new 97, 3) := by decide +kernel
theorem dX4_requireState_7 : decode cX4_requireState 7 = .ok (.dup, 1) := by decide +kernel
theorem dX4_requireState_8 : decode cX4_requireState 8 = .ok (.ldc 201, 2) := by decide +kernel
theorem dX4_requireState_10 : decode cX4_requireState 10 = .ok (.invokespecial 101, 3) := by decide +kernel
theorem dX4_requireState_13 : decode cX4_requireState 13 = .ok (.athrow, 1) := by decide +kernel
theorem dX4_requireState_14 : decode cX4_requireState 14 = .ok (.return_, 1) := by decide +kernel
theorem dX4_ask_0 : decode cX4_ask 0 = .ok (.aload_n 1, 1) := by decide +kernel
theorem dX4_ask_1 : decode cX4_ask 1 = .ok (.iload_n 2, 1) := by decide +kernel
theorem dX4_ask_2 : decode cX4_ask 2 = .ok (.iload_n 3, 1) := by decide +kernel
theorem dX4_ask_3 : decode cX4_ask 3 = .ok (.iload 4, 2) := by decide +kernel
theorem dX4_ask_5 : decode cX4_ask 5 = .ok (.invokevirtual 203, 3) := by decide +kernel
theorem dX4_ask_8 : decode cX4_ask 8 = .ok (.istore 5, 2) := by decide +kernel
theorem dX4_ask_10 : decode cX4_ask 10 = .ok (.iload 5, 2) := by decide +kernel
theorem dX4_ask_12 : decode cX4_ask 12 = .ok (.ifCond .eq 15, 3) := by decide +kernel
theorem dX4_ask_15 : decode cX4_ask 15 = .ok (.aload_n 0, 1) := by decide +kernel
theorem dX4_ask_16 : decode cX4_ask 16 = .ok (.getfield 22, 3) := by decide +kernel
theorem dX4_ask_19 : decode cX4_ask 19 = .ok (.aload_n 1, 1) := by decide +kernel
theorem dX4_ask_20 : decode cX4_ask 20 = .ok (.iload_n 2, 1) := by decide +kernel
theorem dX4_ask_21 : decode cX4_ask 21 = .ok (.invokevirtual 207, 3) := by decide +kernel
theorem dX4_ask_24 : decode cX4_ask 24 = .ok (.goto 4, 3) := by decide +kernel
theorem dX4_ask_27 : decode cX4_ask 27 = .ok (.iconst 0, 1) := by decide +kernel
theorem dX4_ask_28 : decode cX4_ask 28 = .ok (.ireturn, 1) := by decide +kernel
theorem dJ6_bitCount_0f7a4_0 : decode cJ6_bitCount_0f7a4 0 = .ok (.iload_n 0, 1) := by decide +kernel
theorem dJ6_bitCount_0f7a4_1 : decode cJ6_bitCount_0f7a4 1 = .ok (.iload_n 0, 1) := by decide +kernel
theorem dJ6_bitCount_0f7a4_2 : decode cJ6_bitCount_0f7a4 2 = .ok (.iconst 1, 1) := by decide +kernel
theorem dJ6_bitCount_0f7a4_3 : decode cJ6_bitCount_0f7a4 3 = .ok (.iushr, 1) := by decide +kernel
theorem dJ6_bitCount_0f7a4_4 : decode cJ6_bitCount_0f7a4 4 = .ok (.ldc_w 265, 3) := by decide +kernel
theorem dJ6_bitCount_0f7a4_7 : decode cJ6_bitCount_0f7a4 7 = .ok (.iand, 1) := by decide +kernel
theorem dJ6_bitCount_0f7a4_8 : decode cJ6_bitCount_0f7a4 8 = .ok (.isub, 1) := by decide +kernel
theorem dJ6_bitCount_0f7a4_9 : decode cJ6_bitCount_0f7a4 9 = .ok (.istore_n 0, 1) := by decide +kernel
theorem dJ6_bitCount_0f7a4_10 : decode cJ6_bitCount_0f7a4 10 = .ok (.iload_n 0, 1) := by decide +kernel
theorem dJ6_bitCount_0f7a4_11 : decode cJ6_bitCount_0f7a4 11 = .ok (.ldc_w 266, 3) := by decide +kernel
theorem dJ6_bitCount_0f7a4_14 : decode cJ6_bitCount_0f7a4 14 = .ok (.iand, 1) := by decide +kernel
theorem dJ6_bitCount_0f7a4_15 : decode cJ6_bitCount_0f7a4 15 = .ok (.iload_n 0, 1) := by decide +kernel
theorem dJ6_bitCount_0f7a4_16 : decode cJ6_bitCount_0f7a4 16 = .ok (.iconst 2, 1) := by decide +kernel
theorem dJ6_bitCount_0f7a4_17 : decode cJ6_bitCount_0f7a4 17 = .ok (.iushr, 1) := by decide +kernel
theorem dJ6_bitCount_0f7a4_18 : decode cJ6_bitCount_0f7a4 18 = .ok (.ldc_w 266, 3) := by decide +kernel
theorem dJ6_bitCount_0f7a4_21 : decode cJ6_bitCount_0f7a4 21 = .ok (.iand, 1) := by decide +kernel
theorem dJ6_bitCount_0f7a4_22 : decode cJ6_bitCount_0f7a4 22 = .ok (.iadd, 1) := by decide +kernel
theorem dJ6_bitCount_0f7a4_23 : decode cJ6_bitCount_0f7a4 23 = .ok (.istore_n 0, 1) := by decide +kernel
theorem dJ6_bitCount_0f7a4_24 : decode cJ6_bitCount_0f7a4 24 = .ok (.iload_n 0, 1) := by decide +kernel
theorem dJ6_bitCount_0f7a4_25 : decode cJ6_bitCount_0f7a4 25 = .ok (.iload_n 0, 1) := by decide +kernel
theorem dJ6_bitCount_0f7a4_26 : decode cJ6_bitCount_0f7a4 26 = .ok (.iconst 4, 1) := by decide +kernel
theorem dJ6_bitCount_0f7a4_27 : decode cJ6_bitCount_0f7a4 27 = .ok (.iushr, 1) := by decide +kernel
theorem dJ6_bitCount_0f7a4_28 : decode cJ6_bitCount_0f7a4 28 = .ok (.iadd, 1) := by decide +kernel
theorem dJ6_bitCount_0f7a4_29 : decode cJ6_bitCount_0f7a4 29 = .ok (.ldc_w 267, 3) := by decide +kernel
theorem dJ6_bitCount_0f7a4_32 : decode cJ6_bitCount_0f7a4 32 = .ok (.iand, 1) := by decide +kernel
theorem dJ6_bitCount_0f7a4_33 : decode cJ6_bitCount_0f7a4 33 = .ok (.istore_n 0, 1) := by decide +kernel
theorem dJ6_bitCount_0f7a4_34 : decode cJ6_bitCount_0f7a4 34 = .ok (.iload_n 0, 1) := by decide +kernel
theorem dJ6_bitCount_0f7a4_35 : decode cJ6_bitCount_0f7a4 35 = .ok (.iload_n 0, 1) := by decide +kernel
theorem dJ6_bitCount_0f7a4_36 : decode cJ6_bitCount_0f7a4 36 = .ok (.bipush 8, 2) := by decide +kernel
theorem dJ6_bitCount_0f7a4_38 : decode cJ6_bitCount_0f7a4 38 = .ok (.iushr, 1) := by decide +kernel
theorem dJ6_bitCount_0f7a4_39 : decode cJ6_bitCount_0f7a4 39 = .ok (.iadd, 1) := by decide +kernel
theorem dJ6_bitCount_0f7a4_40 : decode cJ6_bitCount_0f7a4 40 = .ok (.istore_n 0, 1) := by decide +kernel
theorem dJ6_bitCount_0f7a4_41 : decode cJ6_bitCount_0f7a4 41 = .ok (.iload_n 0, 1) := by decide +kernel
theorem dJ6_bitCount_0f7a4_42 : decode cJ6_bitCount_0f7a4 42 = .ok (.iload_n 0, 1) := by decide +kernel
theorem dJ6_bitCount_0f7a4_43 : decode cJ6_bitCount_0f7a4 43 = .ok (.bipush 16, 2) := by decide +kernel
theorem dJ6_bitCount_0f7a4_45 : decode cJ6_bitCount_0f7a4 45 = .ok (.iushr, 1) := by decide +kernel
theorem dJ6_bitCount_0f7a4_46 : decode cJ6_bitCount_0f7a4 46 = .ok (.iadd, 1) := by decide +kernel
theorem dJ6_bitCount_0f7a4_47 : decode cJ6_bitCount_0f7a4 47 = .ok (.istore_n 0, 1) := by decide +kernel
theorem dJ6_bitCount_0f7a4_48 : decode cJ6_bitCount_0f7a4 48 = .ok (.iload_n 0, 1) := by decide +kernel
theorem dJ6_bitCount_0f7a4_49 : decode cJ6_bitCount_0f7a4 49 = .ok (.bipush 63, 2) := by decide +kernel
theorem dJ6_bitCount_0f7a4_51 : decode cJ6_bitCount_0f7a4 51 = .ok (.iand, 1) := by decide +kernel
theorem dJ6_bitCount_0f7a4_52 : decode cJ6_bitCount_0f7a4 52 = .ok (.ireturn, 1) := by decide +kernel
