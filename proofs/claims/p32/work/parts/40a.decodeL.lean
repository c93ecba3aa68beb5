theorem dL_cell_0 : decode cL_cell 0 = .ok (.iload_n 1, 1) := by decide +kernel
theorem dL_cell_1 : decode cL_cell 1 = .ok (.aload_n 0, 1) := by decide +kernel
theorem dL_cell_2 : decode cL_cell 2 = .ok (.arraylength, 1) := by decide +kernel
theorem dL_cell_3 : decode cL_cell 3 = .ok (.if_icmp .ge 9, 3) := by decide +kernel
theorem dL_cell_6 : decode cL_cell 6 = .ok (.aload_n 0, 1) := by decide +kernel
theorem dL_cell_7 : decode cL_cell 7 = .ok (.iload_n 1, 1) := by decide +kernel
theorem dL_cell_8 : decode cL_cell 8 = .ok (.iaload, 1) := by decide +kernel
theorem dL_cell_9 : decode cL_cell 9 = .ok (.goto 9, 3) := by decide +kernel
theorem dL_cell_12 : decode cL_cell 12 = .ok (.ldc 7, 2) := by decide +kernel
theorem dL_cell_14 : decode cL_cell 14 = .ok (.iload_n 1, 1) := by decide +kernel
theorem dL_cell_15 : decode cL_cell 15 = .ok (.iconst 1, 1) := by decide +kernel
theorem dL_cell_16 : decode cL_cell 16 = .ok (.iadd, 1) := by decide +kernel
theorem dL_cell_17 : decode cL_cell 17 = .ok (.imul, 1) := by decide +kernel
theorem dL_cell_18 : decode cL_cell 18 = .ok (.ireturn, 1) := by decide +kernel
theorem dL_low_0 : decode cL_low 0 = .ok (.iload_n 0, 1) := by decide +kernel
theorem dL_low_1 : decode cL_low 1 = .ok (.ldc 8, 2) := by decide +kernel
theorem dL_low_3 : decode cL_low 3 = .ok (.iand, 1) := by decide +kernel
theorem dL_low_4 : decode cL_low 4 = .ok (.iload_n 1, 1) := by decide +kernel
theorem dL_low_5 : decode cL_low 5 = .ok (.irem, 1) := by decide +kernel
theorem dL_low_6 : decode cL_low 6 = .ok (.ireturn, 1) := by decide +kernel
theorem dL_begin_0 : decode cL_begin 0 = .ok (.aload_n 0, 1) := by decide +kernel
theorem dL_begin_1 : decode cL_begin 1 = .ok (.iload_n 1, 1) := by decide +kernel
theorem dL_begin_2 : decode cL_begin 2 = .ok (.invokevirtual 9, 3) := by decide +kernel
theorem dL_begin_5 : decode cL_begin 5 = .ok (.istore_n 2, 1) := by decide +kernel
theorem dL_begin_6 : decode cL_begin 6 = .ok (.goto 11, 3) := by decide +kernel
theorem dL_begin_9 : decode cL_begin 9 = .ok (.astore_n 3, 1) := by decide +kernel
theorem dL_begin_10 : decode cL_begin 10 = .ok (.bipush (-31), 2) := by decide +kernel
theorem dL_begin_12 : decode cL_begin 12 = .ok (.ireturn, 1) := by decide +kernel
theorem dL_begin_13 : decode cL_begin 13 = .ok (.astore_n 3, 1) := by decide +kernel
theorem dL_begin_14 : decode cL_begin 14 = .ok (.bipush (-33), 2) := by decide +kernel
theorem dL_begin_16 : decode cL_begin 16 = .ok (.ireturn, 1) := by decide +kernel
theorem dL_begin_17 : decode cL_begin 17 = .ok (.iload_n 2, 1) := by decide +kernel
theorem dL_begin_18 : decode cL_begin 18 = .ok (.ireturn, 1) := by decide +kernel
theorem dL_request_0 : decode cL_request 0 = .ok (.aload_n 0, 1) := by decide +kernel
theorem dL_request_1 : decode cL_request 1 = .ok (.iload_n 1, 1) := by decide +kernel
theorem dL_request_2 : decode cL_request 2 = .ok (.iload_n 2, 1) := by decide +kernel
theorem dL_request_3 : decode cL_request 3 = .ok (.iload_n 3, 1) := by decide +kernel
theorem dL_request_4 : decode cL_request 4 = .ok (.invokevirtual 19, 3) := by decide +kernel
theorem dL_request_7 : decode cL_request 7 = .ok (.istore 4, 2) := by decide +kernel
theorem dL_request_9 : decode cL_request 9 = .ok (.goto 18, 3) := by decide +kernel
theorem dL_request_12 : decode cL_request 12 = .ok (.astore 5, 2) := by decide +kernel
theorem dL_request_14 : decode cL_request 14 = .ok (.bipush (-31), 2) := by decide +kernel
theorem dL_request_16 : decode cL_request 16 = .ok (.ireturn, 1) := by decide +kernel
theorem dL_request_17 : decode cL_request 17 = .ok (.astore 5, 2) := by decide +kernel
theorem dL_request_19 : decode cL_request 19 = .ok (.bipush (-32), 2) := by decide +kernel
theorem dL_request_21 : decode cL_request 21 = .ok (.ireturn, 1) := by decide +kernel
theorem dL_request_22 : decode cL_request 22 = .ok (.astore 5, 2) := by decide +kernel
theorem dL_request_24 : decode cL_request 24 = .ok (.bipush (-33), 2) := by decide +kernel
theorem dL_request_26 : decode cL_request 26 = .ok (.ireturn, 1) := by decide +kernel
theorem dL_request_27 : decode cL_request 27 = .ok (.iload 4, 2) := by decide +kernel
theorem dL_request_29 : decode cL_request 29 = .ok (.ireturn, 1) := by decide +kernel
theorem dL_work_0 : decode cL_work 0 = .ok (.aload_n 0, 1) := by decide +kernel
theorem dL_work_1 : decode cL_work 1 = .ok (.iload_n 1, 1) := by decide +kernel
theorem dL_work_2 : decode cL_work 2 = .ok (.iload_n 2, 1) := by decide +kernel
theorem dL_work_3 : decode cL_work 3 = .ok (.invokevirtual 25, 3) := by decide +kernel
theorem dL_work_6 : decode cL_work 6 = .ok (.istore_n 3, 1) := by decide +kernel
theorem dL_work_7 : decode cL_work 7 = .ok (.goto 18, 3) := by decide +kernel
theorem dL_work_10 : decode cL_work 10 = .ok (.astore 4, 2) := by decide +kernel
theorem dL_work_12 : decode cL_work 12 = .ok (.bipush (-31), 2) := by decide +kernel
theorem dL_work_14 : decode cL_work 14 = .ok (.ireturn, 1) := by decide +kernel
theorem dL_work_15 : decode cL_work 15 = .ok (.astore 4, 2) := by decide +kernel
theorem dL_work_17 : decode cL_work 17 = .ok (.bipush (-32), 2) := by decide +kernel
theorem dL_work_19 : decode cL_work 19 = .ok (.ireturn, 1) := by decide +kernel
theorem dL_work_20 : decode cL_work 20 = .ok (.astore 4, 2) := by decide +kernel
theorem dL_work_22 : decode cL_work 22 = .ok (.bipush (-33), 2) := by decide +kernel
theorem dL_work_24 : decode cL_work 24 = .ok (.ireturn, 1) := by decide +kernel
theorem dL_work_25 : decode cL_work 25 = .ok (.iload_n 3, 1) := by decide +kernel
theorem dL_work_26 : decode cL_work 26 = .ok (.ireturn, 1) := by decide +kernel
theorem dL_withdraw_0 : decode cL_withdraw 0 = .ok (.aload_n 0, 1) := by decide +kernel
theorem dL_withdraw_1 : decode cL_withdraw 1 = .ok (.iload_n 1, 1) := by decide +kernel
theorem dL_withdraw_2 : decode cL_withdraw 2 = .ok (.invokevirtual 29, 3) := by decide +kernel
theorem dL_withdraw_5 : decode cL_withdraw 5 = .ok (.istore_n 2, 1) := by decide +kernel
theorem dL_withdraw_6 : decode cL_withdraw 6 = .ok (.goto 11, 3) := by decide +kernel
theorem dL_withdraw_9 : decode cL_withdraw 9 = .ok (.astore_n 3, 1) := by decide +kernel
theorem dL_withdraw_10 : decode cL_withdraw 10 = .ok (.bipush (-31), 2) := by decide +kernel
theorem dL_withdraw_12 : decode cL_withdraw 12 = .ok (.ireturn, 1) := by decide +kernel
theorem dL_withdraw_13 : decode cL_withdraw 13 = .ok (.astore_n 3, 1) := by decide +kernel
theorem dL_withdraw_14 : decode cL_withdraw 14 = .ok (.bipush (-33), 2) := by decide +kernel
theorem dL_withdraw_16 : decode cL_withdraw 16 = .ok (.ireturn, 1) := by decide +kernel
theorem dL_withdraw_17 : decode cL_withdraw 17 = .ok (.iload_n 2, 1) := by decide +kernel
theorem dL_withdraw_18 : decode cL_withdraw 18 = .ok (.ireturn, 1) := by decide +kernel
theorem dL_commit_0 : decode cL_commit 0 = .ok (.aload_n 0, 1) := by decide +kernel
theorem dL_commit_1 : decode cL_commit 1 = .ok (.iload_n 1, 1) := by decide +kernel
theorem dL_commit_2 : decode cL_commit 2 = .ok (.invokevirtual 32, 3) := by decide +kernel
theorem dL_commit_5 : decode cL_commit 5 = .ok (.istore_n 2, 1) := by decide +kernel
theorem dL_commit_6 : decode cL_commit 6 = .ok (.goto 11, 3) := by decide +kernel
theorem dL_commit_9 : decode cL_commit 9 = .ok (.astore_n 3, 1) := by decide +kernel
theorem dL_commit_10 : decode cL_commit 10 = .ok (.bipush (-31), 2) := by decide +kernel
theorem dL_commit_12 : decode cL_commit 12 = .ok (.ireturn, 1) := by decide +kernel
theorem dL_commit_13 : decode cL_commit 13 = .ok (.astore_n 3, 1) := by decide +kernel
theorem dL_commit_14 : decode cL_commit 14 = .ok (.bipush (-33), 2) := by decide +kernel
theorem dL_commit_16 : decode cL_commit 16 = .ok (.ireturn, 1) := by decide +kernel
theorem dL_commit_17 : decode cL_commit 17 = .ok (.iload_n 2, 1) := by decide +kernel
theorem dL_commit_18 : decode cL_commit 18 = .ok (.ireturn, 1) := by decide +kernel
theorem dL_rollBack_0 : decode cL_rollBack 0 = .ok (.aload_n 0, 1) := by decide +kernel
theorem dL_rollBack_1 : decode cL_rollBack 1 = .ok (.iload_n 1, 1) := by decide +kernel
theorem dL_rollBack_2 : decode cL_rollBack 2 = .ok (.invokevirtual 35, 3) := by decide +kernel
theorem dL_rollBack_5 : decode cL_rollBack 5 = .ok (.istore_n 2, 1) := by decide +kernel
theorem dL_rollBack_6 : decode cL_rollBack 6 = .ok (.goto 11, 3) := by decide +kernel
theorem dL_rollBack_9 : decode cL_rollBack 9 = .ok (.astore_n 3, 1) := by decide +kernel
theorem dL_rollBack_10 : decode cL_rollBack 10 = .ok (.bipush (-31), 2) := by decide +kernel
theorem dL_rollBack_12 : decode cL_rollBack 12 = .ok (.ireturn, 1) := by decide +kernel
theorem dL_rollBack_13 : decode cL_rollBack 13 = .ok (.astore_n 3, 1) := by decide +kernel
theorem dL_rollBack_14 : decode cL_rollBack 14 = .ok (.bipush (-33), 2) := by decide +kernel
theorem dL_rollBack_16 : decode cL_rollBack 16 = .ok (.ireturn, 1) := by decide +kernel
theorem dL_rollBack_17 : decode cL_rollBack 17 = .ok (.iload_n 2, 1) := by decide +kernel
theorem dL_rollBack_18 : decode cL_rollBack 18 = .ok (.ireturn, 1) := by decide +kernel
theorem dL_ifRequested_0 : decode cL_ifRequested 0 = .ok (.aload_n 0, 1) := by decide +kernel
theorem dL_ifRequested_1 : decode cL_ifRequested 1 = .ok (.iload_n 1, 1) := by decide +kernel
theorem dL_ifRequested_2 : decode cL_ifRequested 2 = .ok (.iload_n 2, 1) := by decide +kernel
theorem dL_ifRequested_3 : decode cL_ifRequested 3 = .ok (.iload_n 3, 1) := by decide +kernel
theorem dL_ifRequested_4 : decode cL_ifRequested 4 = .ok (.invokevirtual 38, 3) := by decide +kernel
theorem dL_ifRequested_7 : decode cL_ifRequested 7 = .ok (.istore 4, 2) := by decide +kernel
theorem dL_ifRequested_9 : decode cL_ifRequested 9 = .ok (.goto 13, 3) := by decide +kernel
theorem dL_ifRequested_12 : decode cL_ifRequested 12 = .ok (.astore 5, 2) := by decide +kernel
theorem dL_ifRequested_14 : decode cL_ifRequested 14 = .ok (.bipush (-31), 2) := by decide +kernel
theorem dL_ifRequested_16 : decode cL_ifRequested 16 = .ok (.ireturn, 1) := by decide +kernel
theorem dL_ifRequested_17 : decode cL_ifRequested 17 = .ok (.astore 5, 2) := by decide +kernel
theorem dL_ifRequested_19 : decode cL_ifRequested 19 = .ok (.bipush (-32), 2) := by decide +kernel
theorem dL_ifRequested_21 : decode cL_ifRequested 21 = .ok (.ireturn, 1) := by decide +kernel
theorem dL_ifRequested_22 : decode cL_ifRequested 22 = .ok (.iload 4, 2) := by decide +kernel
theorem dL_ifRequested_24 : decode cL_ifRequested 24 = .ok (.ireturn, 1) := by decide +kernel
theorem dL_victimsOf_0 : decode cL_victimsOf 0 = .ok (.aload_n 0, 1) := by decide +kernel
theorem dL_victimsOf_1 : decode cL_victimsOf 1 = .ok (.iload_n 1, 1) := by decide +kernel
theorem dL_victimsOf_2 : decode cL_victimsOf 2 = .ok (.iload_n 2, 1) := by decide +kernel
theorem dL_victimsOf_3 : decode cL_victimsOf 3 = .ok (.iload_n 3, 1) := by decide +kernel
theorem dL_victimsOf_4 : decode cL_victimsOf 4 = .ok (.invokevirtual 41, 3) := by decide +kernel
theorem dL_victimsOf_7 : decode cL_victimsOf 7 = .ok (.istore 4, 2) := by decide +kernel
theorem dL_victimsOf_9 : decode cL_victimsOf 9 = .ok (.goto 13, 3) := by decide +kernel
theorem dL_victimsOf_12 : decode cL_victimsOf 12 = .ok (.astore 5, 2) := by decide +kernel
theorem dL_victimsOf_14 : decode cL_victimsOf 14 = .ok (.bipush (-31), 2) := by decide +kernel
theorem dL_victimsOf_16 : decode cL_victimsOf 16 = .ok (.ireturn, 1) := by decide +kernel
theorem dL_victimsOf_17 : decode cL_victimsOf 17 = .ok (.astore 5, 2) := by decide +kernel
theorem dL_victimsOf_19 : decode cL_victimsOf 19 = .ok (.bipush (-32), 2) := by decide +kernel
theorem dL_victimsOf_21 : decode cL_victimsOf 21 = .ok (.ireturn, 1) := by decide +kernel
theorem dL_victimsOf_22 : decode cL_victimsOf 22 = .ok (.iload 4, 2) := by decide +kernel
theorem dL_victimsOf_24 : decode cL_victimsOf 24 = .ok (.ireturn, 1) := by decide +kernel
theorem dL_queued_0 : decode cL_queued 0 = .ok (.aload_n 0, 1) := by decide +kernel
theorem dL_queued_1 : decode cL_queued 1 = .ok (.iload_n 1, 1) := by decide +kernel
theorem dL_queued_2 : decode cL_queued 2 = .ok (.iload_n 2, 1) := by decide +kernel
theorem dL_queued_3 : decode cL_queued 3 = .ok (.invokevirtual 44, 3) := by decide +kernel
theorem dL_queued_6 : decode cL_queued 6 = .ok (.istore_n 3, 1) := by decide +kernel
theorem dL_queued_7 : decode cL_queued 7 = .ok (.goto 8, 3) := by decide +kernel
theorem dL_queued_10 : decode cL_queued 10 = .ok (.astore 4, 2) := by decide +kernel
theorem dL_queued_12 : decode cL_queued 12 = .ok (.bipush (-31), 2) := by decide +kernel
theorem dL_queued_14 : decode cL_queued 14 = .ok (.ireturn, 1) := by decide +kernel
theorem dL_queued_15 : decode cL_queued 15 = .ok (.iload_n 3, 1) := by decide +kernel
theorem dL_queued_16 : decode cL_queued 16 = .ok (.ireturn, 1) := by decide +kernel
theorem dL_state_0 : decode cL_state 0 = .ok (.aload_n 0, 1) := by decide +kernel
theorem dL_state_1 : decode cL_state 1 = .ok (.iload_n 1, 1) := by decide +kernel
theorem dL_state_2 : decode cL_state 2 = .ok (.invokevirtual 47, 3) := by decide +kernel
theorem dL_state_5 : decode cL_state 5 = .ok (.istore_n 2, 1) := by decide +kernel
theorem dL_state_6 : decode cL_state 6 = .ok (.goto 7, 3) := by decide +kernel
theorem dL_state_9 : decode cL_state 9 = .ok (.astore_n 3, 1) := by decide +kernel
theorem dL_state_10 : decode cL_state 10 = .ok (.bipush (-31), 2) := by decide +kernel
theorem dL_state_12 : decode cL_state 12 = .ok (.ireturn, 1) := by decide +kernel
theorem dL_state_13 : decode cL_state 13 = .ok (.iload_n 2, 1) := by decide +kernel
theorem dL_state_14 : decode cL_state 14 = .ok (.ireturn, 1) := by decide +kernel
theorem dL_lock_0 : decode cL_lock 0 = .ok (.aload_n 0, 1) := by decide +kernel
theorem dL_lock_1 : decode cL_lock 1 = .ok (.iload_n 2, 1) := by decide +kernel
theorem dL_lock_2 : decode cL_lock 2 = .ok (.iaload, 1) := by decide +kernel
theorem dL_lock_3 : decode cL_lock 3 = .ok (.iconst 2, 1) := by decide +kernel
theorem dL_lock_4 : decode cL_lock 4 = .ok (.iload_n 1, 1) := by decide +kernel
theorem dL_lock_5 : decode cL_lock 5 = .ok (.imul, 1) := by decide +kernel
theorem dL_lock_6 : decode cL_lock 6 = .ok (.ishr, 1) := by decide +kernel
theorem dL_lock_7 : decode cL_lock 7 = .ok (.iconst 3, 1) := by decide +kernel
theorem dL_lock_8 : decode cL_lock 8 = .ok (.iand, 1) := by decide +kernel
theorem dL_lock_9 : decode cL_lock 9 = .ok (.ireturn, 1) := by decide +kernel
theorem dL_length_0 : decode cL_length 0 = .ok (.iconst 0, 1) := by decide +kernel
theorem dL_length_1 : decode cL_length 1 = .ok (.istore_n 2, 1) := by decide +kernel
theorem dL_length_2 : decode cL_length 2 = .ok (.lload_n 0, 1) := by decide +kernel
theorem dL_length_3 : decode cL_length 3 = .ok (.lstore_n 3, 1) := by decide +kernel
theorem dL_length_4 : decode cL_length 4 = .ok (.lload_n 3, 1) := by decide +kernel
theorem dL_length_5 : decode cL_length 5 = .ok (.lconst 0, 1) := by decide +kernel
theorem dL_length_6 : decode cL_length 6 = .ok (.lcmp, 1) := by decide +kernel
theorem dL_length_7 : decode cL_length 7 = .ok (.ifCond .le 13, 3) := by decide +kernel
theorem dL_length_10 : decode cL_length 10 = .ok (.iinc 2 1, 3) := by decide +kernel
theorem dL_length_13 : decode cL_length 13 = .ok (.lload_n 3, 1) := by decide +kernel
theorem dL_length_14 : decode cL_length 14 = .ok (.iconst 4, 1) := by decide +kernel
theorem dL_length_15 : decode cL_length 15 = .ok (.lshr, 1) := by decide +kernel
theorem dL_length_16 : decode cL_length 16 = .ok (.lstore_n 3, 1) := by decide +kernel
theorem dL_length_17 : decode cL_length 17 = .ok (.goto (-13), 3) := by decide +kernel
theorem dL_length_20 : decode cL_length 20 = .ok (.iload_n 2, 1) := by decide +kernel
theorem dL_length_21 : decode cL_length 21 = .ok (.ireturn, 1) := by decide +kernel
theorem dL_at_0 : decode cL_at 0 = .ok (.lload_n 0, 1) := by decide +kernel
theorem dL_at_1 : decode cL_at 1 = .ok (.iconst 4, 1) := by decide +kernel
theorem dL_at_2 : decode cL_at 2 = .ok (.iload_n 2, 1) := by decide +kernel
theorem dL_at_3 : decode cL_at 3 = .ok (.imul, 1) := by decide +kernel
theorem dL_at_4 : decode cL_at 4 = .ok (.lshr, 1) := by decide +kernel
theorem dL_at_5 : decode cL_at 5 = .ok (.ldc2_w 50, 3) := by decide +kernel
theorem dL_at_8 : decode cL_at 8 = .ok (.land, 1) := by decide +kernel
theorem dL_at_9 : decode cL_at 9 = .ok (.l2i, 1) := by decide +kernel
theorem dL_at_10 : decode cL_at 10 = .ok (.iconst 1, 1) := by decide +kernel
theorem dL_at_11 : decode cL_at 11 = .ok (.isub, 1) := by decide +kernel
theorem dL_at_12 : decode cL_at 12 = .ok (.ireturn, 1) := by decide +kernel
theorem dL_index_0 : decode cL_index 0 = .ok (.iconst 0, 1) := by decide +kernel
theorem dL_index_1 : decode cL_index 1 = .ok (.istore_n 3, 1) := by decide +kernel
theorem dL_index_2 : decode cL_index 2 = .ok (.iload_n 3, 1) := by decide +kernel
theorem dL_index_3 : decode cL_index 3 = .ok (.lload_n 0, 1) := by decide +kernel
theorem dL_index_4 : decode cL_index 4 = .ok (.invokestatic 52, 3) := by decide +kernel
theorem dL_index_7 : decode cL_index 7 = .ok (.if_icmp .ge 18, 3) := by decide +kernel
theorem dL_index_10 : decode cL_index 10 = .ok (.lload_n 0, 1) := by decide +kernel
theorem dL_index_11 : decode cL_index 11 = .ok (.iload_n 3, 1) := by decide +kernel
theorem dL_index_12 : decode cL_index 12 = .ok (.invokestatic 58, 3) := by decide +kernel
theorem dL_index_15 : decode cL_index 15 = .ok (.iload_n 2, 1) := by decide +kernel
theorem dL_index_16 : decode cL_index 16 = .ok (.if_icmp .eq 9, 3) := by decide +kernel
theorem dL_index_19 : decode cL_index 19 = .ok (.iinc 3 1, 3) := by decide +kernel
theorem dL_index_22 : decode cL_index 22 = .ok (.goto (-20), 3) := by decide +kernel
theorem dL_index_25 : decode cL_index 25 = .ok (.iload_n 3, 1) := by decide +kernel
theorem dL_index_26 : decode cL_index 26 = .ok (.ireturn, 1) := by decide +kernel
theorem dL_canHold_0 : decode cL_canHold 0 = .ok (.iconst 1, 1) := by decide +kernel
theorem dL_canHold_1 : decode cL_canHold 1 = .ok (.istore 4, 2) := by decide +kernel
theorem dL_canHold_3 : decode cL_canHold 3 = .ok (.iconst 0, 1) := by decide +kernel
theorem dL_canHold_4 : decode cL_canHold 4 = .ok (.istore 5, 2) := by decide +kernel
theorem dL_canHold_6 : decode cL_canHold 6 = .ok (.iload 5, 2) := by decide +kernel
theorem dL_canHold_8 : decode cL_canHold 8 = .ok (.bipush 8, 2) := by decide +kernel
theorem dL_canHold_10 : decode cL_canHold 10 = .ok (.if_icmp .ge 53, 3) := by decide +kernel
theorem dL_canHold_13 : decode cL_canHold 13 = .ok (.iload 4, 2) := by decide +kernel
theorem dL_canHold_15 : decode cL_canHold 15 = .ok (.ifCond .eq 39, 3) := by decide +kernel
theorem dL_canHold_18 : decode cL_canHold 18 = .ok (.iload 5, 2) := by decide +kernel
theorem dL_canHold_20 : decode cL_canHold 20 = .ok (.iload_n 1, 1) := by decide +kernel
theorem dL_canHold_21 : decode cL_canHold 21 = .ok (.if_icmp .eq 29, 3) := by decide +kernel
theorem dL_canHold_24 : decode cL_canHold 24 = .ok (.aload_n 0, 1) := by decide +kernel
theorem dL_canHold_25 : decode cL_canHold 25 = .ok (.iload 5, 2) := by decide +kernel
theorem dL_canHold_27 : decode cL_canHold 27 = .ok (.iload_n 2, 1) := by decide +kernel
theorem dL_canHold_28 : decode cL_canHold 28 = .ok (.invokestatic 62, 3) := by decide +kernel
theorem dL_canHold_31 : decode cL_canHold 31 = .ok (.ifCond .eq 19, 3) := by decide +kernel
theorem dL_canHold_34 : decode cL_canHold 34 = .ok (.iload_n 3, 1) := by decide +kernel
theorem dL_canHold_35 : decode cL_canHold 35 = .ok (.iconst 1, 1) := by decide +kernel
theorem dL_canHold_36 : decode cL_canHold 36 = .ok (.if_icmp .ne 18, 3) := by decide +kernel
theorem dL_canHold_39 : decode cL_canHold 39 = .ok (.aload_n 0, 1) := by decide +kernel
theorem dL_canHold_40 : decode cL_canHold 40 = .ok (.iload 5, 2) := by decide +kernel
theorem dL_canHold_42 : decode cL_canHold 42 = .ok (.iload_n 2, 1) := by decide +kernel
theorem dL_canHold_43 : decode cL_canHold 43 = .ok (.invokestatic 62, 3) := by decide +kernel
theorem dL_canHold_46 : decode cL_canHold 46 = .ok (.iconst 1, 1) := by decide +kernel
theorem dL_canHold_47 : decode cL_canHold 47 = .ok (.if_icmp .ne 7, 3) := by decide +kernel
theorem dL_canHold_50 : decode cL_canHold 50 = .ok (.iconst 1, 1) := by decide +kernel
theorem dL_canHold_51 : decode cL_canHold 51 = .ok (.goto 4, 3) := by decide +kernel
theorem dL_canHold_54 : decode cL_canHold 54 = .ok (.iconst 0, 1) := by decide +kernel
theorem dL_canHold_55 : decode cL_canHold 55 = .ok (.istore 4, 2) := by decide +kernel
theorem dL_canHold_57 : decode cL_canHold 57 = .ok (.iinc 5 1, 3) := by decide +kernel
theorem dL_canHold_60 : decode cL_canHold 60 = .ok (.goto (-54), 3) := by decide +kernel
theorem dL_canHold_63 : decode cL_canHold 63 = .ok (.iload 4, 2) := by decide +kernel
theorem dL_canHold_65 : decode cL_canHold 65 = .ok (.ireturn, 1) := by decide +kernel
theorem dL_grant_0 : decode cL_grant 0 = .ok (.aload_n 1, 1) := by decide +kernel
theorem dL_grant_1 : decode cL_grant 1 = .ok (.iload_n 3, 1) := by decide +kernel
theorem dL_grant_2 : decode cL_grant 2 = .ok (.aload_n 1, 1) := by decide +kernel
theorem dL_grant_3 : decode cL_grant 3 = .ok (.iload_n 3, 1) := by decide +kernel
theorem dL_grant_4 : decode cL_grant 4 = .ok (.iaload, 1) := by decide +kernel
theorem dL_grant_5 : decode cL_grant 5 = .ok (.iconst 3, 1) := by decide +kernel
theorem dL_grant_6 : decode cL_grant 6 = .ok (.iconst 2, 1) := by decide +kernel
theorem dL_grant_7 : decode cL_grant 7 = .ok (.iload_n 2, 1) := by decide +kernel
theorem dL_grant_8 : decode cL_grant 8 = .ok (.imul, 1) := by decide +kernel
theorem dL_grant_9 : decode cL_grant 9 = .ok (.ishl, 1) := by decide +kernel
theorem dL_grant_10 : decode cL_grant 10 = .ok (.iconst (-1), 1) := by decide +kernel
theorem dL_grant_11 : decode cL_grant 11 = .ok (.ixor, 1) := by decide +kernel
theorem dL_grant_12 : decode cL_grant 12 = .ok (.iand, 1) := by decide +kernel
theorem dL_grant_13 : decode cL_grant 13 = .ok (.iload 4, 2) := by decide +kernel
theorem dL_grant_15 : decode cL_grant 15 = .ok (.iconst 2, 1) := by decide +kernel
theorem dL_grant_16 : decode cL_grant 16 = .ok (.iload_n 2, 1) := by decide +kernel
theorem dL_grant_17 : decode cL_grant 17 = .ok (.imul, 1) := by decide +kernel
theorem dL_grant_18 : decode cL_grant 18 = .ok (.ishl, 1) := by decide +kernel
theorem dL_grant_19 : decode cL_grant 19 = .ok (.ior, 1) := by decide +kernel
theorem dL_grant_20 : decode cL_grant 20 = .ok (.iastore, 1) := by decide +kernel
theorem dL_grant_21 : decode cL_grant 21 = .ok (.aload_n 0, 1) := by decide +kernel
theorem dL_grant_22 : decode cL_grant 22 = .ok (.bipush 6, 2) := by decide +kernel
theorem dL_grant_24 : decode cL_grant 24 = .ok (.iload_n 2, 1) := by decide +kernel
theorem dL_grant_25 : decode cL_grant 25 = .ok (.imul, 1) := by decide +kernel
theorem dL_grant_26 : decode cL_grant 26 = .ok (.iconst 1, 1) := by decide +kernel
theorem dL_grant_27 : decode cL_grant 27 = .ok (.iadd, 1) := by decide +kernel
theorem dL_grant_28 : decode cL_grant 28 = .ok (.dup2, 1) := by decide +kernel
theorem dL_grant_29 : decode cL_grant 29 = .ok (.iaload, 1) := by decide +kernel
theorem dL_grant_30 : decode cL_grant 30 = .ok (.iconst 1, 1) := by decide +kernel
theorem dL_grant_31 : decode cL_grant 31 = .ok (.iadd, 1) := by decide +kernel
theorem dL_grant_32 : decode cL_grant 32 = .ok (.iastore, 1) := by decide +kernel
theorem dL_grant_33 : decode cL_grant 33 = .ok (.return_, 1) := by decide +kernel
theorem dL_remove_0 : decode cL_remove 0 = .ok (.aload_n 0, 1) := by decide +kernel
theorem dL_remove_1 : decode cL_remove 1 = .ok (.bipush 6, 2) := by decide +kernel
theorem dL_remove_3 : decode cL_remove 3 = .ok (.iload_n 2, 1) := by decide +kernel
theorem dL_remove_4 : decode cL_remove 4 = .ok (.imul, 1) := by decide +kernel
theorem dL_remove_5 : decode cL_remove 5 = .ok (.iconst 4, 1) := by decide +kernel
theorem dL_remove_6 : decode cL_remove 6 = .ok (.iadd, 1) := by decide +kernel
theorem dL_remove_7 : decode cL_remove 7 = .ok (.iaload, 1) := by decide +kernel
theorem dL_remove_8 : decode cL_remove 8 = .ok (.istore_n 3, 1) := by decide +kernel
theorem dL_remove_9 : decode cL_remove 9 = .ok (.aload_n 1, 1) := by decide +kernel
theorem dL_remove_10 : decode cL_remove 10 = .ok (.iload_n 3, 1) := by decide +kernel
theorem dL_remove_11 : decode cL_remove 11 = .ok (.laload, 1) := by decide +kernel
theorem dL_remove_12 : decode cL_remove 12 = .ok (.iload_n 2, 1) := by decide +kernel
theorem dL_remove_13 : decode cL_remove 13 = .ok (.invokestatic 66, 3) := by decide +kernel
theorem dL_remove_16 : decode cL_remove 16 = .ok (.istore 4, 2) := by decide +kernel
theorem dL_remove_18 : decode cL_remove 18 = .ok (.aload_n 1, 1) := by decide +kernel
theorem dL_remove_19 : decode cL_remove 19 = .ok (.iload_n 3, 1) := by decide +kernel
theorem dL_remove_20 : decode cL_remove 20 = .ok (.laload, 1) := by decide +kernel
theorem dL_remove_21 : decode cL_remove 21 = .ok (.lconst 1, 1) := by decide +kernel
theorem dL_remove_22 : decode cL_remove 22 = .ok (.iconst 4, 1) := by decide +kernel
theorem dL_remove_23 : decode cL_remove 23 = .ok (.iload 4, 2) := by decide +kernel
theorem dL_remove_25 : decode cL_remove 25 = .ok (.imul, 1) := by decide +kernel
theorem dL_remove_26 : decode cL_remove 26 = .ok (.lshl, 1) := by decide +kernel
theorem dL_remove_27 : decode cL_remove 27 = .ok (.lconst 1, 1) := by decide +kernel
theorem dL_remove_28 : decode cL_remove 28 = .ok (.lsub, 1) := by decide +kernel
theorem dL_remove_29 : decode cL_remove 29 = .ok (.land, 1) := by decide +kernel
theorem dL_remove_30 : decode cL_remove 30 = .ok (.lstore 5, 2) := by decide +kernel
theorem dL_remove_32 : decode cL_remove 32 = .ok (.aload_n 1, 1) := by decide +kernel
theorem dL_remove_33 : decode cL_remove 33 = .ok (.iload_n 3, 1) := by decide +kernel
theorem dL_remove_34 : decode cL_remove 34 = .ok (.aload_n 1, 1) := by decide +kernel
theorem dL_remove_35 : decode cL_remove 35 = .ok (.iload_n 3, 1) := by decide +kernel
theorem dL_remove_36 : decode cL_remove 36 = .ok (.laload, 1) := by decide +kernel
theorem dL_remove_37 : decode cL_remove 37 = .ok (.iconst 4, 1) := by decide +kernel
theorem dL_remove_38 : decode cL_remove 38 = .ok (.iload 4, 2) := by decide +kernel
theorem dL_remove_40 : decode cL_remove 40 = .ok (.imul, 1) := by decide +kernel
theorem dL_remove_41 : decode cL_remove 41 = .ok (.iconst 4, 1) := by decide +kernel
theorem dL_remove_42 : decode cL_remove 42 = .ok (.iadd, 1) := by decide +kernel
theorem dL_remove_43 : decode cL_remove 43 = .ok (.lshr, 1) := by decide +kernel
theorem dL_remove_44 : decode cL_remove 44 = .ok (.iconst 4, 1) := by decide +kernel
theorem dL_remove_45 : decode cL_remove 45 = .ok (.iload 4, 2) := by decide +kernel
theorem dL_remove_47 : decode cL_remove 47 = .ok (.imul, 1) := by decide +kernel
theorem dL_remove_48 : decode cL_remove 48 = .ok (.lshl, 1) := by decide +kernel
theorem dL_remove_49 : decode cL_remove 49 = .ok (.lload 5, 2) := by decide +kernel
theorem dL_remove_51 : decode cL_remove 51 = .ok (.lor, 1) := by decide +kernel
theorem dL_remove_52 : decode cL_remove 52 = .ok (.lastore, 1) := by decide +kernel
theorem dL_remove_53 : decode cL_remove 53 = .ok (.aload_n 0, 1) := by decide +kernel
theorem dL_remove_54 : decode cL_remove 54 = .ok (.bipush 6, 2) := by decide +kernel
theorem dL_remove_56 : decode cL_remove 56 = .ok (.iload_n 2, 1) := by decide +kernel
theorem dL_remove_57 : decode cL_remove 57 = .ok (.imul, 1) := by decide +kernel
theorem dL_remove_58 : decode cL_remove 58 = .ok (.iconst 1, 1) := by decide +kernel
theorem dL_remove_59 : decode cL_remove 59 = .ok (.iastore, 1) := by decide +kernel
theorem dL_remove_60 : decode cL_remove 60 = .ok (.aload_n 0, 1) := by decide +kernel
theorem dL_remove_61 : decode cL_remove 61 = .ok (.bipush 6, 2) := by decide +kernel
theorem dL_remove_63 : decode cL_remove 63 = .ok (.iload_n 2, 1) := by decide +kernel
theorem dL_remove_64 : decode cL_remove 64 = .ok (.imul, 1) := by decide +kernel
theorem dL_remove_65 : decode cL_remove 65 = .ok (.iconst 4, 1) := by decide +kernel
theorem dL_remove_66 : decode cL_remove 66 = .ok (.iadd, 1) := by decide +kernel
theorem dL_remove_67 : decode cL_remove 67 = .ok (.iconst (-1), 1) := by decide +kernel
theorem dL_remove_68 : decode cL_remove 68 = .ok (.iastore, 1) := by decide +kernel
theorem dL_remove_69 : decode cL_remove 69 = .ok (.aload_n 0, 1) := by decide +kernel
theorem dL_remove_70 : decode cL_remove 70 = .ok (.bipush 6, 2) := by decide +kernel
theorem dL_remove_72 : decode cL_remove 72 = .ok (.iload_n 2, 1) := by decide +kernel
theorem dL_remove_73 : decode cL_remove 73 = .ok (.imul, 1) := by decide +kernel
theorem dL_remove_74 : decode cL_remove 74 = .ok (.iconst 5, 1) := by decide +kernel
theorem dL_remove_75 : decode cL_remove 75 = .ok (.iadd, 1) := by decide +kernel
theorem dL_remove_76 : decode cL_remove 76 = .ok (.iconst 0, 1) := by decide +kernel
theorem dL_remove_77 : decode cL_remove 77 = .ok (.iastore, 1) := by decide +kernel
theorem dL_remove_78 : decode cL_remove 78 = .ok (.return_, 1) := by decide +kernel
theorem dL_release_0 : decode cL_release 0 = .ok (.iconst 0, 1) := by decide +kernel
theorem dL_release_1 : decode cL_release 1 = .ok (.istore_n 2, 1) := by decide +kernel
theorem dL_release_2 : decode cL_release 2 = .ok (.iload_n 2, 1) := by decide +kernel
theorem dL_release_3 : decode cL_release 3 = .ok (.bipush 10, 2) := by decide +kernel
theorem dL_release_5 : decode cL_release 5 = .ok (.if_icmp .ge 22, 3) := by decide +kernel
theorem dL_release_8 : decode cL_release 8 = .ok (.aload_n 0, 1) := by decide +kernel
theorem dL_release_9 : decode cL_release 9 = .ok (.iload_n 2, 1) := by decide +kernel
theorem dL_release_10 : decode cL_release 10 = .ok (.dup2, 1) := by decide +kernel
theorem dL_release_11 : decode cL_release 11 = .ok (.iaload, 1) := by decide +kernel
theorem dL_release_12 : decode cL_release 12 = .ok (.iconst 3, 1) := by decide +kernel
theorem dL_release_13 : decode cL_release 13 = .ok (.iconst 2, 1) := by decide +kernel
theorem dL_release_14 : decode cL_release 14 = .ok (.iload_n 1, 1) := by decide +kernel
theorem dL_release_15 : decode cL_release 15 = .ok (.imul, 1) := by decide +kernel
theorem dL_release_16 : decode cL_release 16 = .ok (.ishl, 1) := by decide +kernel
theorem dL_release_17 : decode cL_release 17 = .ok (.iconst (-1), 1) := by decide +kernel
theorem dL_release_18 : decode cL_release 18 = .ok (.ixor, 1) := by decide +kernel
theorem dL_release_19 : decode cL_release 19 = .ok (.iand, 1) := by decide +kernel
theorem dL_release_20 : decode cL_release 20 = .ok (.iastore, 1) := by decide +kernel
theorem dL_release_21 : decode cL_release 21 = .ok (.iinc 2 1, 3) := by decide +kernel
theorem dL_release_24 : decode cL_release 24 = .ok (.goto (-22), 3) := by decide +kernel
theorem dL_release_27 : decode cL_release 27 = .ok (.return_, 1) := by decide +kernel
theorem dL_serve_0 : decode cL_serve 0 = .ok (.iconst 0, 1) := by decide +kernel
theorem dL_serve_1 : decode cL_serve 1 = .ok (.istore_n 3, 1) := by decide +kernel
theorem dL_serve_2 : decode cL_serve 2 = .ok (.iconst 0, 1) := by decide +kernel
theorem dL_serve_3 : decode cL_serve 3 = .ok (.istore 4, 2) := by decide +kernel
theorem dL_serve_5 : decode cL_serve 5 = .ok (.iload 4, 2) := by decide +kernel
theorem dL_serve_7 : decode cL_serve 7 = .ok (.bipush 10, 2) := by decide +kernel
theorem dL_serve_9 : decode cL_serve 9 = .ok (.if_icmp .ge 95, 3) := by decide +kernel
theorem dL_serve_12 : decode cL_serve 12 = .ok (.aload_n 2, 1) := by decide +kernel
theorem dL_serve_13 : decode cL_serve 13 = .ok (.iload 4, 2) := by decide +kernel
theorem dL_serve_15 : decode cL_serve 15 = .ok (.laload, 1) := by decide +kernel
theorem dL_serve_16 : decode cL_serve 16 = .ok (.lconst 0, 1) := by decide +kernel
theorem dL_serve_17 : decode cL_serve 17 = .ok (.lcmp, 1) := by decide +kernel
theorem dL_serve_18 : decode cL_serve 18 = .ok (.ifCond .le 80, 3) := by decide +kernel
theorem dL_serve_21 : decode cL_serve 21 = .ok (.aload_n 1, 1) := by decide +kernel
theorem dL_serve_22 : decode cL_serve 22 = .ok (.aload_n 2, 1) := by decide +kernel
theorem dL_serve_23 : decode cL_serve 23 = .ok (.iload 4, 2) := by decide +kernel
theorem dL_serve_25 : decode cL_serve 25 = .ok (.laload, 1) := by decide +kernel
theorem dL_serve_26 : decode cL_serve 26 = .ok (.iconst 0, 1) := by decide +kernel
theorem dL_serve_27 : decode cL_serve 27 = .ok (.invokestatic 58, 3) := by decide +kernel
theorem dL_serve_30 : decode cL_serve 30 = .ok (.iload 4, 2) := by decide +kernel
theorem dL_serve_32 : decode cL_serve 32 = .ok (.aload_n 0, 1) := by decide +kernel
theorem dL_serve_33 : decode cL_serve 33 = .ok (.bipush 6, 2) := by decide +kernel
theorem dL_serve_35 : decode cL_serve 35 = .ok (.aload_n 2, 1) := by decide +kernel
theorem dL_serve_36 : decode cL_serve 36 = .ok (.iload 4, 2) := by decide +kernel
theorem dL_serve_38 : decode cL_serve 38 = .ok (.laload, 1) := by decide +kernel
theorem dL_serve_39 : decode cL_serve 39 = .ok (.iconst 0, 1) := by decide +kernel
theorem dL_serve_40 : decode cL_serve 40 = .ok (.invokestatic 58, 3) := by decide +kernel
theorem dL_serve_43 : decode cL_serve 43 = .ok (.imul, 1) := by decide +kernel
theorem dL_serve_44 : decode cL_serve 44 = .ok (.iconst 5, 1) := by decide +kernel
theorem dL_serve_45 : decode cL_serve 45 = .ok (.iadd, 1) := by decide +kernel
theorem dL_serve_46 : decode cL_serve 46 = .ok (.iaload, 1) := by decide +kernel
theorem dL_serve_47 : decode cL_serve 47 = .ok (.invokestatic 69, 3) := by decide +kernel
theorem dL_serve_50 : decode cL_serve 50 = .ok (.ifCond .eq 48, 3) := by decide +kernel
theorem dL_serve_53 : decode cL_serve 53 = .ok (.aload_n 2, 1) := by decide +kernel
theorem dL_serve_54 : decode cL_serve 54 = .ok (.iload 4, 2) := by decide +kernel
theorem dL_serve_56 : decode cL_serve 56 = .ok (.laload, 1) := by decide +kernel
theorem dL_serve_57 : decode cL_serve 57 = .ok (.iconst 0, 1) := by decide +kernel
theorem dL_serve_58 : decode cL_serve 58 = .ok (.invokestatic 58, 3) := by decide +kernel
theorem dL_serve_61 : decode cL_serve 61 = .ok (.istore 5, 2) := by decide +kernel
theorem dL_serve_63 : decode cL_serve 63 = .ok (.aload_n 0, 1) := by decide +kernel
theorem dL_serve_64 : decode cL_serve 64 = .ok (.bipush 6, 2) := by decide +kernel
theorem dL_serve_66 : decode cL_serve 66 = .ok (.iload 5, 2) := by decide +kernel
theorem dL_serve_68 : decode cL_serve 68 = .ok (.imul, 1) := by decide +kernel
theorem dL_serve_69 : decode cL_serve 69 = .ok (.iconst 5, 1) := by decide +kernel
theorem dL_serve_70 : decode cL_serve 70 = .ok (.iadd, 1) := by decide +kernel
theorem dL_serve_71 : decode cL_serve 71 = .ok (.iaload, 1) := by decide +kernel
theorem dL_serve_72 : decode cL_serve 72 = .ok (.istore 6, 2) := by decide +kernel
theorem dL_serve_74 : decode cL_serve 74 = .ok (.aload_n 0, 1) := by decide +kernel
theorem dL_serve_75 : decode cL_serve 75 = .ok (.aload_n 2, 1) := by decide +kernel
theorem dL_serve_76 : decode cL_serve 76 = .ok (.iload 5, 2) := by decide +kernel
theorem dL_serve_78 : decode cL_serve 78 = .ok (.invokestatic 73, 3) := by decide +kernel
theorem dL_serve_81 : decode cL_serve 81 = .ok (.aload_n 0, 1) := by decide +kernel
theorem dL_serve_82 : decode cL_serve 82 = .ok (.aload_n 1, 1) := by decide +kernel
theorem dL_serve_83 : decode cL_serve 83 = .ok (.iload 5, 2) := by decide +kernel
theorem dL_serve_85 : decode cL_serve 85 = .ok (.iload 4, 2) := by decide +kernel
theorem dL_serve_87 : decode cL_serve 87 = .ok (.iload 6, 2) := by decide +kernel
theorem dL_serve_89 : decode cL_serve 89 = .ok (.invokestatic 77, 3) := by decide +kernel
theorem dL_serve_92 : decode cL_serve 92 = .ok (.iinc 3 1, 3) := by decide +kernel
theorem dL_serve_95 : decode cL_serve 95 = .ok (.goto (-83), 3) := by decide +kernel
theorem dL_serve_98 : decode cL_serve 98 = .ok (.iinc 4 1, 3) := by decide +kernel
theorem dL_serve_101 : decode cL_serve 101 = .ok (.goto (-96), 3) := by decide +kernel
theorem dL_serve_104 : decode cL_serve 104 = .ok (.iload_n 3, 1) := by decide +kernel
theorem dL_serve_105 : decode cL_serve 105 = .ok (.ireturn, 1) := by decide +kernel
theorem dL_waitsFor_0 : decode cL_waitsFor 0 = .ok (.aload_n 0, 1) := by decide +kernel
theorem dL_waitsFor_1 : decode cL_waitsFor 1 = .ok (.bipush 6, 2) := by decide +kernel
theorem dL_waitsFor_3 : decode cL_waitsFor 3 = .ok (.iload_n 3, 1) := by decide +kernel
theorem dL_waitsFor_4 : decode cL_waitsFor 4 = .ok (.imul, 1) := by decide +kernel
theorem dL_waitsFor_5 : decode cL_waitsFor 5 = .ok (.iaload, 1) := by decide +kernel
theorem dL_waitsFor_6 : decode cL_waitsFor 6 = .ok (.iconst 2, 1) := by decide +kernel
theorem dL_waitsFor_7 : decode cL_waitsFor 7 = .ok (.if_icmp .eq 5, 3) := by decide +kernel
theorem dL_waitsFor_10 : decode cL_waitsFor 10 = .ok (.iconst 0, 1) := by decide +kernel
theorem dL_waitsFor_11 : decode cL_waitsFor 11 = .ok (.ireturn, 1) := by decide +kernel
theorem dL_waitsFor_12 : decode cL_waitsFor 12 = .ok (.aload_n 0, 1) := by decide +kernel
theorem dL_waitsFor_13 : decode cL_waitsFor 13 = .ok (.bipush 6, 2) := by decide +kernel
theorem dL_waitsFor_15 : decode cL_waitsFor 15 = .ok (.iload_n 3, 1) := by decide +kernel
theorem dL_waitsFor_16 : decode cL_waitsFor 16 = .ok (.imul, 1) := by decide +kernel
theorem dL_waitsFor_17 : decode cL_waitsFor 17 = .ok (.iconst 4, 1) := by decide +kernel
theorem dL_waitsFor_18 : decode cL_waitsFor 18 = .ok (.iadd, 1) := by decide +kernel
theorem dL_waitsFor_19 : decode cL_waitsFor 19 = .ok (.iaload, 1) := by decide +kernel
theorem dL_waitsFor_20 : decode cL_waitsFor 20 = .ok (.istore 4, 2) := by decide +kernel
theorem dL_waitsFor_22 : decode cL_waitsFor 22 = .ok (.aload_n 0, 1) := by decide +kernel
theorem dL_waitsFor_23 : decode cL_waitsFor 23 = .ok (.bipush 6, 2) := by decide +kernel
theorem dL_waitsFor_25 : decode cL_waitsFor 25 = .ok (.iload_n 3, 1) := by decide +kernel
theorem dL_waitsFor_26 : decode cL_waitsFor 26 = .ok (.imul, 1) := by decide +kernel
theorem dL_waitsFor_27 : decode cL_waitsFor 27 = .ok (.iconst 5, 1) := by decide +kernel
theorem dL_waitsFor_28 : decode cL_waitsFor 28 = .ok (.iadd, 1) := by decide +kernel
theorem dL_waitsFor_29 : decode cL_waitsFor 29 = .ok (.iaload, 1) := by decide +kernel
theorem dL_waitsFor_30 : decode cL_waitsFor 30 = .ok (.istore 5, 2) := by decide +kernel
theorem dL_waitsFor_32 : decode cL_waitsFor 32 = .ok (.iconst 0, 1) := by decide +kernel
theorem dL_waitsFor_33 : decode cL_waitsFor 33 = .ok (.istore 6, 2) := by decide +kernel
theorem dL_waitsFor_35 : decode cL_waitsFor 35 = .ok (.iconst 0, 1) := by decide +kernel
theorem dL_waitsFor_36 : decode cL_waitsFor 36 = .ok (.istore 7, 2) := by decide +kernel
theorem dL_waitsFor_38 : decode cL_waitsFor 38 = .ok (.iload 7, 2) := by decide +kernel
theorem dL_waitsFor_40 : decode cL_waitsFor 40 = .ok (.bipush 8, 2) := by decide +kernel
theorem dL_waitsFor_42 : decode cL_waitsFor 42 = .ok (.if_icmp .ge 107, 3) := by decide +kernel
theorem dL_waitsFor_45 : decode cL_waitsFor 45 = .ok (.aload_n 1, 1) := by decide +kernel
theorem dL_waitsFor_46 : decode cL_waitsFor 46 = .ok (.iload 7, 2) := by decide +kernel
theorem dL_waitsFor_48 : decode cL_waitsFor 48 = .ok (.iload 4, 2) := by decide +kernel
theorem dL_waitsFor_50 : decode cL_waitsFor 50 = .ok (.invokestatic 62, 3) := by decide +kernel
theorem dL_waitsFor_53 : decode cL_waitsFor 53 = .ok (.istore 8, 2) := by decide +kernel
theorem dL_waitsFor_55 : decode cL_waitsFor 55 = .ok (.aload_n 2, 1) := by decide +kernel
theorem dL_waitsFor_56 : decode cL_waitsFor 56 = .ok (.iload 4, 2) := by decide +kernel
theorem dL_waitsFor_58 : decode cL_waitsFor 58 = .ok (.laload, 1) := by decide +kernel
theorem dL_waitsFor_59 : decode cL_waitsFor 59 = .ok (.iload 7, 2) := by decide +kernel
theorem dL_waitsFor_61 : decode cL_waitsFor 61 = .ok (.invokestatic 66, 3) := by decide +kernel
theorem dL_waitsFor_64 : decode cL_waitsFor 64 = .ok (.aload_n 2, 1) := by decide +kernel
theorem dL_waitsFor_65 : decode cL_waitsFor 65 = .ok (.iload 4, 2) := by decide +kernel
theorem dL_waitsFor_67 : decode cL_waitsFor 67 = .ok (.laload, 1) := by decide +kernel
theorem dL_waitsFor_68 : decode cL_waitsFor 68 = .ok (.iload_n 3, 1) := by decide +kernel
theorem dL_waitsFor_69 : decode cL_waitsFor 69 = .ok (.invokestatic 66, 3) := by decide +kernel
theorem dL_waitsFor_72 : decode cL_waitsFor 72 = .ok (.if_icmp .ge 26, 3) := by decide +kernel
theorem dL_waitsFor_75 : decode cL_waitsFor 75 = .ok (.iload 5, 2) := by decide +kernel
theorem dL_waitsFor_77 : decode cL_waitsFor 77 = .ok (.iconst 2, 1) := by decide +kernel
theorem dL_waitsFor_78 : decode cL_waitsFor 78 = .ok (.if_icmp .eq 16, 3) := by decide +kernel
theorem dL_waitsFor_81 : decode cL_waitsFor 81 = .ok (.aload_n 0, 1) := by decide +kernel
theorem dL_waitsFor_82 : decode cL_waitsFor 82 = .ok (.bipush 6, 2) := by decide +kernel
theorem dL_waitsFor_84 : decode cL_waitsFor 84 = .ok (.iload 7, 2) := by decide +kernel
theorem dL_waitsFor_86 : decode cL_waitsFor 86 = .ok (.imul, 1) := by decide +kernel
theorem dL_waitsFor_87 : decode cL_waitsFor 87 = .ok (.iconst 5, 1) := by decide +kernel
theorem dL_waitsFor_88 : decode cL_waitsFor 88 = .ok (.iadd, 1) := by decide +kernel
theorem dL_waitsFor_89 : decode cL_waitsFor 89 = .ok (.iaload, 1) := by decide +kernel
theorem dL_waitsFor_90 : decode cL_waitsFor 90 = .ok (.iconst 2, 1) := by decide +kernel
theorem dL_waitsFor_91 : decode cL_waitsFor 91 = .ok (.if_icmp .ne 7, 3) := by decide +kernel
theorem dL_waitsFor_94 : decode cL_waitsFor 94 = .ok (.iconst 1, 1) := by decide +kernel
theorem dL_waitsFor_95 : decode cL_waitsFor 95 = .ok (.goto 4, 3) := by decide +kernel
theorem dL_waitsFor_98 : decode cL_waitsFor 98 = .ok (.iconst 0, 1) := by decide +kernel
theorem dL_waitsFor_99 : decode cL_waitsFor 99 = .ok (.istore 9, 2) := by decide +kernel
theorem dL_waitsFor_101 : decode cL_waitsFor 101 = .ok (.iload 6, 2) := by decide +kernel
theorem dL_waitsFor_103 : decode cL_waitsFor 103 = .ok (.iload 7, 2) := by decide +kernel
theorem dL_waitsFor_105 : decode cL_waitsFor 105 = .ok (.iload_n 3, 1) := by decide +kernel
theorem dL_waitsFor_106 : decode cL_waitsFor 106 = .ok (.if_icmp .eq 33, 3) := by decide +kernel
theorem dL_waitsFor_109 : decode cL_waitsFor 109 = .ok (.iload 8, 2) := by decide +kernel
theorem dL_waitsFor_111 : decode cL_waitsFor 111 = .ok (.iconst 2, 1) := by decide +kernel
theorem dL_waitsFor_112 : decode cL_waitsFor 112 = .ok (.if_icmp .eq 20, 3) := by decide +kernel
theorem dL_waitsFor_115 : decode cL_waitsFor 115 = .ok (.iload 8, 2) := by decide +kernel
theorem dL_waitsFor_117 : decode cL_waitsFor 117 = .ok (.iconst 1, 1) := by decide +kernel
theorem dL_waitsFor_118 : decode cL_waitsFor 118 = .ok (.if_icmp .ne 9, 3) := by decide +kernel
theorem dL_waitsFor_121 : decode cL_waitsFor 121 = .ok (.iload 5, 2) := by decide +kernel
theorem dL_waitsFor_123 : decode cL_waitsFor 123 = .ok (.iconst 2, 1) := by decide +kernel
theorem dL_waitsFor_124 : decode cL_waitsFor 124 = .ok (.if_icmp .eq 8, 3) := by decide +kernel
theorem dL_waitsFor_127 : decode cL_waitsFor 127 = .ok (.iload 9, 2) := by decide +kernel
theorem dL_waitsFor_129 : decode cL_waitsFor 129 = .ok (.ifCond .eq 10, 3) := by decide +kernel
theorem dL_waitsFor_132 : decode cL_waitsFor 132 = .ok (.iconst 1, 1) := by decide +kernel
theorem dL_waitsFor_133 : decode cL_waitsFor 133 = .ok (.iload 7, 2) := by decide +kernel
theorem dL_waitsFor_135 : decode cL_waitsFor 135 = .ok (.ishl, 1) := by decide +kernel
theorem dL_waitsFor_136 : decode cL_waitsFor 136 = .ok (.goto 4, 3) := by decide +kernel
theorem dL_waitsFor_139 : decode cL_waitsFor 139 = .ok (.iconst 0, 1) := by decide +kernel
theorem dL_waitsFor_140 : decode cL_waitsFor 140 = .ok (.ior, 1) := by decide +kernel
theorem dL_waitsFor_141 : decode cL_waitsFor 141 = .ok (.istore 6, 2) := by decide +kernel
theorem dL_waitsFor_143 : decode cL_waitsFor 143 = .ok (.iinc 7 1, 3) := by decide +kernel
theorem dL_waitsFor_146 : decode cL_waitsFor 146 = .ok (.goto (-108), 3) := by decide +kernel
theorem dL_waitsFor_149 : decode cL_waitsFor 149 = .ok (.iload 6, 2) := by decide +kernel
theorem dL_waitsFor_151 : decode cL_waitsFor 151 = .ok (.ireturn, 1) := by decide +kernel
theorem dL_far_0 : decode cL_far 0 = .ok (.iconst 1, 1) := by decide +kernel
theorem dL_far_1 : decode cL_far 1 = .ok (.iload_n 3, 1) := by decide +kernel
theorem dL_far_2 : decode cL_far 2 = .ok (.ishl, 1) := by decide +kernel
theorem dL_far_3 : decode cL_far 3 = .ok (.istore 5, 2) := by decide +kernel
theorem dL_far_5 : decode cL_far 5 = .ok (.iconst 0, 1) := by decide +kernel
theorem dL_far_6 : decode cL_far 6 = .ok (.istore 6, 2) := by decide +kernel
theorem dL_far_8 : decode cL_far 8 = .ok (.iload 6, 2) := by decide +kernel
theorem dL_far_10 : decode cL_far 10 = .ok (.bipush 8, 2) := by decide +kernel
theorem dL_far_12 : decode cL_far 12 = .ok (.if_icmp .ge 74, 3) := by decide +kernel
theorem dL_far_15 : decode cL_far 15 = .ok (.iload 5, 2) := by decide +kernel
theorem dL_far_17 : decode cL_far 17 = .ok (.iload 4, 2) := by decide +kernel
theorem dL_far_19 : decode cL_far 19 = .ok (.ishr, 1) := by decide +kernel
theorem dL_far_20 : decode cL_far 20 = .ok (.iconst 1, 1) := by decide +kernel
theorem dL_far_21 : decode cL_far 21 = .ok (.iand, 1) := by decide +kernel
theorem dL_far_22 : decode cL_far 22 = .ok (.iconst 1, 1) := by decide +kernel
theorem dL_far_23 : decode cL_far 23 = .ok (.if_icmp .ne 6, 3) := by decide +kernel
theorem dL_far_26 : decode cL_far 26 = .ok (.iload 6, 2) := by decide +kernel
theorem dL_far_28 : decode cL_far 28 = .ok (.ireturn, 1) := by decide +kernel
theorem dL_far_29 : decode cL_far 29 = .ok (.iconst 0, 1) := by decide +kernel
theorem dL_far_30 : decode cL_far 30 = .ok (.istore 7, 2) := by decide +kernel
theorem dL_far_32 : decode cL_far 32 = .ok (.iconst 0, 1) := by decide +kernel
theorem dL_far_33 : decode cL_far 33 = .ok (.istore 8, 2) := by decide +kernel
theorem dL_far_35 : decode cL_far 35 = .ok (.iload 8, 2) := by decide +kernel
theorem dL_far_37 : decode cL_far 37 = .ok (.bipush 8, 2) := by decide +kernel
theorem dL_far_39 : decode cL_far 39 = .ok (.if_icmp .ge 37, 3) := by decide +kernel
theorem dL_far_42 : decode cL_far 42 = .ok (.iload 7, 2) := by decide +kernel
theorem dL_far_44 : decode cL_far 44 = .ok (.iload 5, 2) := by decide +kernel
theorem dL_far_46 : decode cL_far 46 = .ok (.iload 8, 2) := by decide +kernel
theorem dL_far_48 : decode cL_far 48 = .ok (.ishr, 1) := by decide +kernel
theorem dL_far_49 : decode cL_far 49 = .ok (.iconst 1, 1) := by decide +kernel
theorem dL_far_50 : decode cL_far 50 = .ok (.iand, 1) := by decide +kernel
theorem dL_far_51 : decode cL_far 51 = .ok (.iconst 1, 1) := by decide +kernel
theorem dL_far_52 : decode cL_far 52 = .ok (.if_icmp .ne 14, 3) := by decide +kernel
theorem dL_far_55 : decode cL_far 55 = .ok (.aload_n 0, 1) := by decide +kernel
theorem dL_far_56 : decode cL_far 56 = .ok (.aload_n 1, 1) := by decide +kernel
theorem dL_far_57 : decode cL_far 57 = .ok (.aload_n 2, 1) := by decide +kernel
theorem dL_far_58 : decode cL_far 58 = .ok (.iload 8, 2) := by decide +kernel
theorem dL_far_60 : decode cL_far 60 = .ok (.invokestatic 81, 3) := by decide +kernel
theorem dL_far_63 : decode cL_far 63 = .ok (.goto 4, 3) := by decide +kernel
theorem dL_far_66 : decode cL_far 66 = .ok (.iconst 0, 1) := by decide +kernel
theorem dL_far_67 : decode cL_far 67 = .ok (.ior, 1) := by decide +kernel
theorem dL_far_68 : decode cL_far 68 = .ok (.istore 7, 2) := by decide +kernel
theorem dL_far_70 : decode cL_far 70 = .ok (.iinc 8 1, 3) := by decide +kernel
theorem dL_far_73 : decode cL_far 73 = .ok (.goto (-38), 3) := by decide +kernel
theorem dL_far_76 : decode cL_far 76 = .ok (.iload 7, 2) := by decide +kernel
theorem dL_far_78 : decode cL_far 78 = .ok (.istore 5, 2) := by decide +kernel
theorem dL_far_80 : decode cL_far 80 = .ok (.iinc 6 1, 3) := by decide +kernel
theorem dL_far_83 : decode cL_far 83 = .ok (.goto (-75), 3) := by decide +kernel
theorem dL_far_86 : decode cL_far 86 = .ok (.bipush 99, 2) := by decide +kernel
theorem dL_far_88 : decode cL_far 88 = .ok (.ireturn, 1) := by decide +kernel
theorem dL_victim_0 : decode cL_victim 0 = .ok (.iconst 0, 1) := by decide +kernel
theorem dL_victim_1 : decode cL_victim 1 = .ok (.istore 4, 2) := by decide +kernel
theorem dL_victim_3 : decode cL_victim 3 = .ok (.iload_n 3, 1) := by decide +kernel
theorem dL_victim_4 : decode cL_victim 4 = .ok (.istore 5, 2) := by decide +kernel
theorem dL_victim_6 : decode cL_victim 6 = .ok (.bipush 100, 2) := by decide +kernel
theorem dL_victim_8 : decode cL_victim 8 = .ok (.istore 6, 2) := by decide +kernel
theorem dL_victim_10 : decode cL_victim 10 = .ok (.iload 6, 2) := by decide +kernel
theorem dL_victim_12 : decode cL_victim 12 = .ok (.ifCond .le 119, 3) := by decide +kernel
theorem dL_victim_15 : decode cL_victim 15 = .ok (.iload 4, 2) := by decide +kernel
theorem dL_victim_17 : decode cL_victim 17 = .ok (.iconst 1, 1) := by decide +kernel
theorem dL_victim_18 : decode cL_victim 18 = .ok (.iload 5, 2) := by decide +kernel
theorem dL_victim_20 : decode cL_victim 20 = .ok (.ishl, 1) := by decide +kernel
theorem dL_victim_21 : decode cL_victim 21 = .ok (.ior, 1) := by decide +kernel
theorem dL_victim_22 : decode cL_victim 22 = .ok (.istore 4, 2) := by decide +kernel
theorem dL_victim_24 : decode cL_victim 24 = .ok (.iconst (-1), 1) := by decide +kernel
theorem dL_victim_25 : decode cL_victim 25 = .ok (.istore 7, 2) := by decide +kernel
theorem dL_victim_27 : decode cL_victim 27 = .ok (.bipush 7, 2) := by decide +kernel
theorem dL_victim_29 : decode cL_victim 29 = .ok (.istore 8, 2) := by decide +kernel
theorem dL_victim_31 : decode cL_victim 31 = .ok (.iload 8, 2) := by decide +kernel
theorem dL_victim_33 : decode cL_victim 33 = .ok (.ifCond .lt 61, 3) := by decide +kernel
theorem dL_victim_36 : decode cL_victim 36 = .ok (.aload_n 0, 1) := by decide +kernel
theorem dL_victim_37 : decode cL_victim 37 = .ok (.aload_n 1, 1) := by decide +kernel
theorem dL_victim_38 : decode cL_victim 38 = .ok (.aload_n 2, 1) := by decide +kernel
theorem dL_victim_39 : decode cL_victim 39 = .ok (.iload 5, 2) := by decide +kernel
theorem dL_victim_41 : decode cL_victim 41 = .ok (.invokestatic 81, 3) := by decide +kernel
theorem dL_victim_44 : decode cL_victim 44 = .ok (.iload 8, 2) := by decide +kernel
theorem dL_victim_46 : decode cL_victim 46 = .ok (.ishr, 1) := by decide +kernel
theorem dL_victim_47 : decode cL_victim 47 = .ok (.iconst 1, 1) := by decide +kernel
theorem dL_victim_48 : decode cL_victim 48 = .ok (.iand, 1) := by decide +kernel
theorem dL_victim_49 : decode cL_victim 49 = .ok (.iconst 1, 1) := by decide +kernel
theorem dL_victim_50 : decode cL_victim 50 = .ok (.if_icmp .ne 34, 3) := by decide +kernel
theorem dL_victim_53 : decode cL_victim 53 = .ok (.iload 7, 2) := by decide +kernel
theorem dL_victim_55 : decode cL_victim 55 = .ok (.ifCond .lt 24, 3) := by decide +kernel
theorem dL_victim_58 : decode cL_victim 58 = .ok (.aload_n 0, 1) := by decide +kernel
theorem dL_victim_59 : decode cL_victim 59 = .ok (.aload_n 1, 1) := by decide +kernel
theorem dL_victim_60 : decode cL_victim 60 = .ok (.aload_n 2, 1) := by decide +kernel
theorem dL_victim_61 : decode cL_victim 61 = .ok (.iload 8, 2) := by decide +kernel
theorem dL_victim_63 : decode cL_victim 63 = .ok (.iload_n 3, 1) := by decide +kernel
theorem dL_victim_64 : decode cL_victim 64 = .ok (.invokestatic 85, 3) := by decide +kernel
theorem dL_victim_67 : decode cL_victim 67 = .ok (.aload_n 0, 1) := by decide +kernel
theorem dL_victim_68 : decode cL_victim 68 = .ok (.aload_n 1, 1) := by decide +kernel
theorem dL_victim_69 : decode cL_victim 69 = .ok (.aload_n 2, 1) := by decide +kernel
theorem dL_victim_70 : decode cL_victim 70 = .ok (.iload 7, 2) := by decide +kernel
theorem dL_victim_72 : decode cL_victim 72 = .ok (.iload_n 3, 1) := by decide +kernel
theorem dL_victim_73 : decode cL_victim 73 = .ok (.invokestatic 85, 3) := by decide +kernel
theorem dL_victim_76 : decode cL_victim 76 = .ok (.if_icmp .gt 8, 3) := by decide +kernel
theorem dL_victim_79 : decode cL_victim 79 = .ok (.iload 8, 2) := by decide +kernel
theorem dL_victim_81 : decode cL_victim 81 = .ok (.goto 5, 3) := by decide +kernel
theorem dL_victim_84 : decode cL_victim 84 = .ok (.iload 7, 2) := by decide +kernel
theorem dL_victim_86 : decode cL_victim 86 = .ok (.istore 7, 2) := by decide +kernel
theorem dL_victim_88 : decode cL_victim 88 = .ok (.iinc 8 (-1), 3) := by decide +kernel
theorem dL_victim_91 : decode cL_victim 91 = .ok (.goto (-60), 3) := by decide +kernel
theorem dL_victim_94 : decode cL_victim 94 = .ok (.iload 7, 2) := by decide +kernel
theorem dL_victim_96 : decode cL_victim 96 = .ok (.ifCond .ge 8, 3) := by decide +kernel
theorem dL_victim_99 : decode cL_victim 99 = .ok (.bipush 99, 2) := by decide +kernel
theorem dL_victim_101 : decode cL_victim 101 = .ok (.goto 12, 3) := by decide +kernel
theorem dL_victim_104 : decode cL_victim 104 = .ok (.aload_n 0, 1) := by decide +kernel
theorem dL_victim_105 : decode cL_victim 105 = .ok (.aload_n 1, 1) := by decide +kernel
theorem dL_victim_106 : decode cL_victim 106 = .ok (.aload_n 2, 1) := by decide +kernel
theorem dL_victim_107 : decode cL_victim 107 = .ok (.iload 7, 2) := by decide +kernel
theorem dL_victim_109 : decode cL_victim 109 = .ok (.iload_n 3, 1) := by decide +kernel
theorem dL_victim_110 : decode cL_victim 110 = .ok (.invokestatic 85, 3) := by decide +kernel
theorem dL_victim_113 : decode cL_victim 113 = .ok (.istore 6, 2) := by decide +kernel
theorem dL_victim_115 : decode cL_victim 115 = .ok (.iload 6, 2) := by decide +kernel
theorem dL_victim_117 : decode cL_victim 117 = .ok (.bipush 99, 2) := by decide +kernel
theorem dL_victim_119 : decode cL_victim 119 = .ok (.if_icmp .ne 5, 3) := by decide +kernel
theorem dL_victim_122 : decode cL_victim 122 = .ok (.iconst (-1), 1) := by decide +kernel
theorem dL_victim_123 : decode cL_victim 123 = .ok (.ireturn, 1) := by decide +kernel
theorem dL_victim_124 : decode cL_victim 124 = .ok (.iload 7, 2) := by decide +kernel
theorem dL_victim_126 : decode cL_victim 126 = .ok (.istore 5, 2) := by decide +kernel
theorem dL_victim_128 : decode cL_victim 128 = .ok (.goto (-118), 3) := by decide +kernel
theorem dL_victim_131 : decode cL_victim 131 = .ok (.iconst (-1), 1) := by decide +kernel
theorem dL_victim_132 : decode cL_victim 132 = .ok (.istore 7, 2) := by decide +kernel
theorem dL_victim_134 : decode cL_victim 134 = .ok (.iconst 0, 1) := by decide +kernel
theorem dL_victim_135 : decode cL_victim 135 = .ok (.istore 8, 2) := by decide +kernel
theorem dL_victim_137 : decode cL_victim 137 = .ok (.iload 8, 2) := by decide +kernel
theorem dL_victim_139 : decode cL_victim 139 = .ok (.iconst 2, 1) := by decide +kernel
theorem dL_victim_140 : decode cL_victim 140 = .ok (.if_icmp .ge 138, 3) := by decide +kernel
theorem dL_victim_143 : decode cL_victim 143 = .ok (.iload 7, 2) := by decide +kernel
theorem dL_victim_145 : decode cL_victim 145 = .ok (.ifCond .ge 133, 3) := by decide +kernel
theorem dL_victim_148 : decode cL_victim 148 = .ok (.iconst 0, 1) := by decide +kernel
theorem dL_victim_149 : decode cL_victim 149 = .ok (.istore 9, 2) := by decide +kernel
theorem dL_victim_151 : decode cL_victim 151 = .ok (.iload 9, 2) := by decide +kernel
theorem dL_victim_153 : decode cL_victim 153 = .ok (.bipush 8, 2) := by decide +kernel
theorem dL_victim_155 : decode cL_victim 155 = .ok (.if_icmp .ge 117, 3) := by decide +kernel
theorem dL_victim_158 : decode cL_victim 158 = .ok (.iload 4, 2) := by decide +kernel
theorem dL_victim_160 : decode cL_victim 160 = .ok (.iload 9, 2) := by decide +kernel
theorem dL_victim_162 : decode cL_victim 162 = .ok (.ishr, 1) := by decide +kernel
theorem dL_victim_163 : decode cL_victim 163 = .ok (.iconst 1, 1) := by decide +kernel
theorem dL_victim_164 : decode cL_victim 164 = .ok (.iand, 1) := by decide +kernel
theorem dL_victim_165 : decode cL_victim 165 = .ok (.ifCond .eq 101, 3) := by decide +kernel
theorem dL_victim_168 : decode cL_victim 168 = .ok (.iload 8, 2) := by decide +kernel
theorem dL_victim_170 : decode cL_victim 170 = .ok (.ifCond .ne 19, 3) := by decide +kernel
theorem dL_victim_173 : decode cL_victim 173 = .ok (.aload_n 0, 1) := by decide +kernel
theorem dL_victim_174 : decode cL_victim 174 = .ok (.bipush 6, 2) := by decide +kernel
theorem dL_victim_176 : decode cL_victim 176 = .ok (.iload 9, 2) := by decide +kernel
theorem dL_victim_178 : decode cL_victim 178 = .ok (.imul, 1) := by decide +kernel
theorem dL_victim_179 : decode cL_victim 179 = .ok (.iconst 2, 1) := by decide +kernel
theorem dL_victim_180 : decode cL_victim 180 = .ok (.iadd, 1) := by decide +kernel
theorem dL_victim_181 : decode cL_victim 181 = .ok (.iaload, 1) := by decide +kernel
theorem dL_victim_182 : decode cL_victim 182 = .ok (.iconst 1, 1) := by decide +kernel
theorem dL_victim_183 : decode cL_victim 183 = .ok (.if_icmp .le 6, 3) := by decide +kernel
theorem dL_victim_186 : decode cL_victim 186 = .ok (.goto 80, 3) := by decide +kernel
theorem dL_victim_189 : decode cL_victim 189 = .ok (.iload 7, 2) := by decide +kernel
theorem dL_victim_191 : decode cL_victim 191 = .ok (.ifCond .lt 66, 3) := by decide +kernel
theorem dL_victim_194 : decode cL_victim 194 = .ok (.aload_n 0, 1) := by decide +kernel
theorem dL_victim_195 : decode cL_victim 195 = .ok (.bipush 6, 2) := by decide +kernel
theorem dL_victim_197 : decode cL_victim 197 = .ok (.iload 9, 2) := by decide +kernel
theorem dL_victim_199 : decode cL_victim 199 = .ok (.imul, 1) := by decide +kernel
theorem dL_victim_200 : decode cL_victim 200 = .ok (.iconst 1, 1) := by decide +kernel
theorem dL_victim_201 : decode cL_victim 201 = .ok (.iadd, 1) := by decide +kernel
theorem dL_victim_202 : decode cL_victim 202 = .ok (.iaload, 1) := by decide +kernel
theorem dL_victim_203 : decode cL_victim 203 = .ok (.aload_n 0, 1) := by decide +kernel
theorem dL_victim_204 : decode cL_victim 204 = .ok (.bipush 6, 2) := by decide +kernel
theorem dL_victim_206 : decode cL_victim 206 = .ok (.iload 7, 2) := by decide +kernel
theorem dL_victim_208 : decode cL_victim 208 = .ok (.imul, 1) := by decide +kernel
theorem dL_victim_209 : decode cL_victim 209 = .ok (.iconst 1, 1) := by decide +kernel
theorem dL_victim_210 : decode cL_victim 210 = .ok (.iadd, 1) := by decide +kernel
theorem dL_victim_211 : decode cL_victim 211 = .ok (.iaload, 1) := by decide +kernel
theorem dL_victim_212 : decode cL_victim 212 = .ok (.if_icmp .lt 45, 3) := by decide +kernel
theorem dL_victim_215 : decode cL_victim 215 = .ok (.aload_n 0, 1) := by decide +kernel
theorem dL_victim_216 : decode cL_victim 216 = .ok (.bipush 6, 2) := by decide +kernel
theorem dL_victim_218 : decode cL_victim 218 = .ok (.iload 9, 2) := by decide +kernel
theorem dL_victim_220 : decode cL_victim 220 = .ok (.imul, 1) := by decide +kernel
theorem dL_victim_221 : decode cL_victim 221 = .ok (.iconst 1, 1) := by decide +kernel
theorem dL_victim_222 : decode cL_victim 222 = .ok (.iadd, 1) := by decide +kernel
theorem dL_victim_223 : decode cL_victim 223 = .ok (.iaload, 1) := by decide +kernel
theorem dL_victim_224 : decode cL_victim 224 = .ok (.aload_n 0, 1) := by decide +kernel
theorem dL_victim_225 : decode cL_victim 225 = .ok (.bipush 6, 2) := by decide +kernel
theorem dL_victim_227 : decode cL_victim 227 = .ok (.iload 7, 2) := by decide +kernel
theorem dL_victim_229 : decode cL_victim 229 = .ok (.imul, 1) := by decide +kernel
theorem dL_victim_230 : decode cL_victim 230 = .ok (.iconst 1, 1) := by decide +kernel
theorem dL_victim_231 : decode cL_victim 231 = .ok (.iadd, 1) := by decide +kernel
theorem dL_victim_232 : decode cL_victim 232 = .ok (.iaload, 1) := by decide +kernel
theorem dL_victim_233 : decode cL_victim 233 = .ok (.if_icmp .ne 29, 3) := by decide +kernel
theorem dL_victim_236 : decode cL_victim 236 = .ok (.aload_n 0, 1) := by decide +kernel
theorem dL_victim_237 : decode cL_victim 237 = .ok (.bipush 6, 2) := by decide +kernel
theorem dL_victim_239 : decode cL_victim 239 = .ok (.iload 9, 2) := by decide +kernel
theorem dL_victim_241 : decode cL_victim 241 = .ok (.imul, 1) := by decide +kernel
theorem dL_victim_242 : decode cL_victim 242 = .ok (.iconst 3, 1) := by decide +kernel
theorem dL_victim_243 : decode cL_victim 243 = .ok (.iadd, 1) := by decide +kernel
theorem dL_victim_244 : decode cL_victim 244 = .ok (.iaload, 1) := by decide +kernel
theorem dL_victim_245 : decode cL_victim 245 = .ok (.aload_n 0, 1) := by decide +kernel
theorem dL_victim_246 : decode cL_victim 246 = .ok (.bipush 6, 2) := by decide +kernel
theorem dL_victim_248 : decode cL_victim 248 = .ok (.iload 7, 2) := by decide +kernel
theorem dL_victim_250 : decode cL_victim 250 = .ok (.imul, 1) := by decide +kernel
theorem dL_victim_251 : decode cL_victim 251 = .ok (.iconst 3, 1) := by decide +kernel
theorem dL_victim_252 : decode cL_victim 252 = .ok (.iadd, 1) := by decide +kernel
theorem dL_victim_253 : decode cL_victim 253 = .ok (.iaload, 1) := by decide +kernel
theorem dL_victim_254 : decode cL_victim 254 = .ok (.if_icmp .le 8, 3) := by decide +kernel
theorem dL_victim_257 : decode cL_victim 257 = .ok (.iload 9, 2) := by decide +kernel
theorem dL_victim_259 : decode cL_victim 259 = .ok (.goto 5, 3) := by decide +kernel
theorem dL_victim_262 : decode cL_victim 262 = .ok (.iload 7, 2) := by decide +kernel
theorem dL_victim_264 : decode cL_victim 264 = .ok (.istore 7, 2) := by decide +kernel
theorem dL_victim_266 : decode cL_victim 266 = .ok (.iinc 9 1, 3) := by decide +kernel
theorem dL_victim_269 : decode cL_victim 269 = .ok (.goto (-118), 3) := by decide +kernel
theorem dL_victim_272 : decode cL_victim 272 = .ok (.iinc 8 1, 3) := by decide +kernel
theorem dL_victim_275 : decode cL_victim 275 = .ok (.goto (-138), 3) := by decide +kernel
theorem dL_victim_278 : decode cL_victim 278 = .ok (.iload 7, 2) := by decide +kernel
theorem dL_victim_280 : decode cL_victim 280 = .ok (.ireturn, 1) := by decide +kernel
theorem dL_requested_0 : decode cL_requested 0 = .ok (.aload_n 1, 1) := by decide +kernel
theorem dL_requested_1 : decode cL_requested 1 = .ok (.iload 4, 2) := by decide +kernel
theorem dL_requested_3 : decode cL_requested 3 = .ok (.iload 5, 2) := by decide +kernel
theorem dL_requested_5 : decode cL_requested 5 = .ok (.invokestatic 62, 3) := by decide +kernel
theorem dL_requested_8 : decode cL_requested 8 = .ok (.istore 7, 2) := by decide +kernel
theorem dL_requested_10 : decode cL_requested 10 = .ok (.iload 7, 2) := by decide +kernel
theorem dL_requested_12 : decode cL_requested 12 = .ok (.iconst 2, 1) := by decide +kernel
theorem dL_requested_13 : decode cL_requested 13 = .ok (.if_icmp .eq 10, 3) := by decide +kernel
theorem dL_requested_16 : decode cL_requested 16 = .ok (.iload 7, 2) := by decide +kernel
theorem dL_requested_18 : decode cL_requested 18 = .ok (.iload 6, 2) := by decide +kernel
theorem dL_requested_20 : decode cL_requested 20 = .ok (.if_icmp .ne 5, 3) := by decide +kernel
theorem dL_requested_23 : decode cL_requested 23 = .ok (.iconst 1, 1) := by decide +kernel
theorem dL_requested_24 : decode cL_requested 24 = .ok (.ireturn, 1) := by decide +kernel
theorem dL_requested_25 : decode cL_requested 25 = .ok (.aload_n 1, 1) := by decide +kernel
theorem dL_requested_26 : decode cL_requested 26 = .ok (.iload 5, 2) := by decide +kernel
theorem dL_requested_28 : decode cL_requested 28 = .ok (.iaload, 1) := by decide +kernel
theorem dL_requested_29 : decode cL_requested 29 = .ok (.iconst 3, 1) := by decide +kernel
theorem dL_requested_30 : decode cL_requested 30 = .ok (.iconst 2, 1) := by decide +kernel
theorem dL_requested_31 : decode cL_requested 31 = .ok (.iload 4, 2) := by decide +kernel
theorem dL_requested_33 : decode cL_requested 33 = .ok (.imul, 1) := by decide +kernel
theorem dL_requested_34 : decode cL_requested 34 = .ok (.ishl, 1) := by decide +kernel
theorem dL_requested_35 : decode cL_requested 35 = .ok (.iconst (-1), 1) := by decide +kernel
theorem dL_requested_36 : decode cL_requested 36 = .ok (.ixor, 1) := by decide +kernel
theorem dL_requested_37 : decode cL_requested 37 = .ok (.iand, 1) := by decide +kernel
theorem dL_requested_38 : decode cL_requested 38 = .ok (.ifCond .ne 7, 3) := by decide +kernel
theorem dL_requested_41 : decode cL_requested 41 = .ok (.iconst 1, 1) := by decide +kernel
theorem dL_requested_42 : decode cL_requested 42 = .ok (.goto 4, 3) := by decide +kernel
theorem dL_requested_45 : decode cL_requested 45 = .ok (.iconst 0, 1) := by decide +kernel
theorem dL_requested_46 : decode cL_requested 46 = .ok (.istore 8, 2) := by decide +kernel
theorem dL_requested_48 : decode cL_requested 48 = .ok (.iload 7, 2) := by decide +kernel
theorem dL_requested_50 : decode cL_requested 50 = .ok (.iconst 1, 1) := by decide +kernel
theorem dL_requested_51 : decode cL_requested 51 = .ok (.if_icmp .ne 8, 3) := by decide +kernel
theorem dL_requested_54 : decode cL_requested 54 = .ok (.iload 8, 2) := by decide +kernel
theorem dL_requested_56 : decode cL_requested 56 = .ok (.ifCond .ne 30, 3) := by decide +kernel
theorem dL_requested_59 : decode cL_requested 59 = .ok (.iload 7, 2) := by decide +kernel
theorem dL_requested_61 : decode cL_requested 61 = .ok (.ifCond .ne 38, 3) := by decide +kernel
theorem dL_requested_64 : decode cL_requested 64 = .ok (.aload_n 2, 1) := by decide +kernel
theorem dL_requested_65 : decode cL_requested 65 = .ok (.iload 5, 2) := by decide +kernel
theorem dL_requested_67 : decode cL_requested 67 = .ok (.laload, 1) := by decide +kernel
theorem dL_requested_68 : decode cL_requested 68 = .ok (.lconst 0, 1) := by decide +kernel
theorem dL_requested_69 : decode cL_requested 69 = .ok (.lcmp, 1) := by decide +kernel
theorem dL_requested_70 : decode cL_requested 70 = .ok (.ifCond .ne 29, 3) := by decide +kernel
theorem dL_requested_73 : decode cL_requested 73 = .ok (.aload_n 1, 1) := by decide +kernel
theorem dL_requested_74 : decode cL_requested 74 = .ok (.iload 4, 2) := by decide +kernel
theorem dL_requested_76 : decode cL_requested 76 = .ok (.iload 5, 2) := by decide +kernel
theorem dL_requested_78 : decode cL_requested 78 = .ok (.iload 6, 2) := by decide +kernel
theorem dL_requested_80 : decode cL_requested 80 = .ok (.invokestatic 69, 3) := by decide +kernel
theorem dL_requested_83 : decode cL_requested 83 = .ok (.ifCond .eq 16, 3) := by decide +kernel
theorem dL_requested_86 : decode cL_requested 86 = .ok (.aload_n 0, 1) := by decide +kernel
theorem dL_requested_87 : decode cL_requested 87 = .ok (.aload_n 1, 1) := by decide +kernel
theorem dL_requested_88 : decode cL_requested 88 = .ok (.iload 4, 2) := by decide +kernel
theorem dL_requested_90 : decode cL_requested 90 = .ok (.iload 5, 2) := by decide +kernel
theorem dL_requested_92 : decode cL_requested 92 = .ok (.iload 6, 2) := by decide +kernel
theorem dL_requested_94 : decode cL_requested 94 = .ok (.invokestatic 77, 3) := by decide +kernel
theorem dL_requested_97 : decode cL_requested 97 = .ok (.iconst 1, 1) := by decide +kernel
theorem dL_requested_98 : decode cL_requested 98 = .ok (.ireturn, 1) := by decide +kernel
theorem dL_requested_99 : decode cL_requested 99 = .ok (.iload 7, 2) := by decide +kernel
theorem dL_requested_101 : decode cL_requested 101 = .ok (.ifCond .ne 13, 3) := by decide +kernel
theorem dL_requested_104 : decode cL_requested 104 = .ok (.aload_n 2, 1) := by decide +kernel
theorem dL_requested_105 : decode cL_requested 105 = .ok (.iload 5, 2) := by decide +kernel
theorem dL_requested_107 : decode cL_requested 107 = .ok (.laload, 1) := by decide +kernel
theorem dL_requested_108 : decode cL_requested 108 = .ok (.invokestatic 52, 3) := by decide +kernel
theorem dL_requested_111 : decode cL_requested 111 = .ok (.goto 4, 3) := by decide +kernel
theorem dL_requested_114 : decode cL_requested 114 = .ok (.iconst 0, 1) := by decide +kernel
theorem dL_requested_115 : decode cL_requested 115 = .ok (.istore 9, 2) := by decide +kernel
theorem dL_requested_117 : decode cL_requested 117 = .ok (.iload 7, 2) := by decide +kernel
theorem dL_requested_119 : decode cL_requested 119 = .ok (.iconst 1, 1) := by decide +kernel
theorem dL_requested_120 : decode cL_requested 120 = .ok (.if_icmp .ne 40, 3) := by decide +kernel
theorem dL_requested_123 : decode cL_requested 123 = .ok (.iload 9, 2) := by decide +kernel
theorem dL_requested_125 : decode cL_requested 125 = .ok (.aload_n 2, 1) := by decide +kernel
theorem dL_requested_126 : decode cL_requested 126 = .ok (.iload 5, 2) := by decide +kernel
theorem dL_requested_128 : decode cL_requested 128 = .ok (.laload, 1) := by decide +kernel
theorem dL_requested_129 : decode cL_requested 129 = .ok (.invokestatic 52, 3) := by decide +kernel
theorem dL_requested_132 : decode cL_requested 132 = .ok (.if_icmp .ge 28, 3) := by decide +kernel
theorem dL_requested_135 : decode cL_requested 135 = .ok (.aload_n 1, 1) := by decide +kernel
theorem dL_requested_136 : decode cL_requested 136 = .ok (.aload_n 2, 1) := by decide +kernel
theorem dL_requested_137 : decode cL_requested 137 = .ok (.iload 5, 2) := by decide +kernel
theorem dL_requested_139 : decode cL_requested 139 = .ok (.laload, 1) := by decide +kernel
theorem dL_requested_140 : decode cL_requested 140 = .ok (.iload 9, 2) := by decide +kernel
theorem dL_requested_142 : decode cL_requested 142 = .ok (.invokestatic 58, 3) := by decide +kernel
theorem dL_requested_145 : decode cL_requested 145 = .ok (.iload 5, 2) := by decide +kernel
theorem dL_requested_147 : decode cL_requested 147 = .ok (.invokestatic 62, 3) := by decide +kernel
theorem dL_requested_150 : decode cL_requested 150 = .ok (.iconst 1, 1) := by decide +kernel
theorem dL_requested_151 : decode cL_requested 151 = .ok (.if_icmp .ne 9, 3) := by decide +kernel
theorem dL_requested_154 : decode cL_requested 154 = .ok (.iinc 9 1, 3) := by decide +kernel
theorem dL_requested_157 : decode cL_requested 157 = .ok (.goto (-40), 3) := by decide +kernel
theorem dL_requested_160 : decode cL_requested 160 = .ok (.aload_n 2, 1) := by decide +kernel
theorem dL_requested_161 : decode cL_requested 161 = .ok (.iload 5, 2) := by decide +kernel
theorem dL_requested_163 : decode cL_requested 163 = .ok (.laload, 1) := by decide +kernel
theorem dL_requested_164 : decode cL_requested 164 = .ok (.lconst 1, 1) := by decide +kernel
theorem dL_requested_165 : decode cL_requested 165 = .ok (.iconst 4, 1) := by decide +kernel
theorem dL_requested_166 : decode cL_requested 166 = .ok (.iload 9, 2) := by decide +kernel
theorem dL_requested_168 : decode cL_requested 168 = .ok (.imul, 1) := by decide +kernel
theorem dL_requested_169 : decode cL_requested 169 = .ok (.lshl, 1) := by decide +kernel
theorem dL_requested_170 : decode cL_requested 170 = .ok (.lconst 1, 1) := by decide +kernel
theorem dL_requested_171 : decode cL_requested 171 = .ok (.lsub, 1) := by decide +kernel
theorem dL_requested_172 : decode cL_requested 172 = .ok (.land, 1) := by decide +kernel
theorem dL_requested_173 : decode cL_requested 173 = .ok (.lstore 10, 2) := by decide +kernel
theorem dL_requested_175 : decode cL_requested 175 = .ok (.aload_n 2, 1) := by decide +kernel
theorem dL_requested_176 : decode cL_requested 176 = .ok (.iload 5, 2) := by decide +kernel
theorem dL_requested_178 : decode cL_requested 178 = .ok (.aload_n 2, 1) := by decide +kernel
theorem dL_requested_179 : decode cL_requested 179 = .ok (.iload 5, 2) := by decide +kernel
theorem dL_requested_181 : decode cL_requested 181 = .ok (.laload, 1) := by decide +kernel
theorem dL_requested_182 : decode cL_requested 182 = .ok (.iconst 4, 1) := by decide +kernel
theorem dL_requested_183 : decode cL_requested 183 = .ok (.iload 9, 2) := by decide +kernel
theorem dL_requested_185 : decode cL_requested 185 = .ok (.imul, 1) := by decide +kernel
theorem dL_requested_186 : decode cL_requested 186 = .ok (.lshr, 1) := by decide +kernel
theorem dL_requested_187 : decode cL_requested 187 = .ok (.iconst 4, 1) := by decide +kernel
theorem dL_requested_188 : decode cL_requested 188 = .ok (.lshl, 1) := by decide +kernel
theorem dL_requested_189 : decode cL_requested 189 = .ok (.lconst 1, 1) := by decide +kernel
theorem dL_requested_190 : decode cL_requested 190 = .ok (.iload 4, 2) := by decide +kernel
theorem dL_requested_192 : decode cL_requested 192 = .ok (.i2l, 1) := by decide +kernel
theorem dL_requested_193 : decode cL_requested 193 = .ok (.ladd, 1) := by decide +kernel
theorem dL_requested_194 : decode cL_requested 194 = .ok (.lor, 1) := by decide +kernel
theorem dL_requested_195 : decode cL_requested 195 = .ok (.iconst 4, 1) := by decide +kernel
theorem dL_requested_196 : decode cL_requested 196 = .ok (.iload 9, 2) := by decide +kernel
theorem dL_requested_198 : decode cL_requested 198 = .ok (.imul, 1) := by decide +kernel
theorem dL_requested_199 : decode cL_requested 199 = .ok (.lshl, 1) := by decide +kernel
theorem dL_requested_200 : decode cL_requested 200 = .ok (.lload 10, 2) := by decide +kernel
theorem dL_requested_202 : decode cL_requested 202 = .ok (.lor, 1) := by decide +kernel
theorem dL_requested_203 : decode cL_requested 203 = .ok (.lastore, 1) := by decide +kernel
theorem dL_requested_204 : decode cL_requested 204 = .ok (.aload_n 0, 1) := by decide +kernel
theorem dL_requested_205 : decode cL_requested 205 = .ok (.bipush 6, 2) := by decide +kernel
theorem dL_requested_207 : decode cL_requested 207 = .ok (.iload 4, 2) := by decide +kernel
theorem dL_requested_209 : decode cL_requested 209 = .ok (.imul, 1) := by decide +kernel
theorem dL_requested_210 : decode cL_requested 210 = .ok (.iconst 2, 1) := by decide +kernel
theorem dL_requested_211 : decode cL_requested 211 = .ok (.iastore, 1) := by decide +kernel
theorem dL_requested_212 : decode cL_requested 212 = .ok (.aload_n 0, 1) := by decide +kernel
theorem dL_requested_213 : decode cL_requested 213 = .ok (.bipush 6, 2) := by decide +kernel
theorem dL_requested_215 : decode cL_requested 215 = .ok (.iload 4, 2) := by decide +kernel
theorem dL_requested_217 : decode cL_requested 217 = .ok (.imul, 1) := by decide +kernel
theorem dL_requested_218 : decode cL_requested 218 = .ok (.iconst 4, 1) := by decide +kernel
theorem dL_requested_219 : decode cL_requested 219 = .ok (.iadd, 1) := by decide +kernel
theorem dL_requested_220 : decode cL_requested 220 = .ok (.iload 5, 2) := by decide +kernel
theorem dL_requested_222 : decode cL_requested 222 = .ok (.iastore, 1) := by decide +kernel
theorem dL_requested_223 : decode cL_requested 223 = .ok (.aload_n 0, 1) := by decide +kernel
theorem dL_requested_224 : decode cL_requested 224 = .ok (.bipush 6, 2) := by decide +kernel
theorem dL_requested_226 : decode cL_requested 226 = .ok (.iload 4, 2) := by decide +kernel
theorem dL_requested_228 : decode cL_requested 228 = .ok (.imul, 1) := by decide +kernel
theorem dL_requested_229 : decode cL_requested 229 = .ok (.iconst 5, 1) := by decide +kernel
theorem dL_requested_230 : decode cL_requested 230 = .ok (.iadd, 1) := by decide +kernel
theorem dL_requested_231 : decode cL_requested 231 = .ok (.iload 6, 2) := by decide +kernel
theorem dL_requested_233 : decode cL_requested 233 = .ok (.iastore, 1) := by decide +kernel
theorem dL_requested_234 : decode cL_requested 234 = .ok (.iconst 0, 1) := by decide +kernel
theorem dL_requested_235 : decode cL_requested 235 = .ok (.istore 12, 2) := by decide +kernel
theorem dL_requested_237 : decode cL_requested 237 = .ok (.aload_n 0, 1) := by decide +kernel
theorem dL_requested_238 : decode cL_requested 238 = .ok (.bipush 6, 2) := by decide +kernel
theorem dL_requested_240 : decode cL_requested 240 = .ok (.iload 4, 2) := by decide +kernel
theorem dL_requested_242 : decode cL_requested 242 = .ok (.imul, 1) := by decide +kernel
theorem dL_requested_243 : decode cL_requested 243 = .ok (.iaload, 1) := by decide +kernel
theorem dL_requested_244 : decode cL_requested 244 = .ok (.iconst 2, 1) := by decide +kernel
theorem dL_requested_245 : decode cL_requested 245 = .ok (.if_icmp .ne 98, 3) := by decide +kernel
theorem dL_requested_248 : decode cL_requested 248 = .ok (.aload_n 0, 1) := by decide +kernel
theorem dL_requested_249 : decode cL_requested 249 = .ok (.aload_n 1, 1) := by decide +kernel
theorem dL_requested_250 : decode cL_requested 250 = .ok (.aload_n 2, 1) := by decide +kernel
theorem dL_requested_251 : decode cL_requested 251 = .ok (.iload 4, 2) := by decide +kernel
theorem dL_requested_253 : decode cL_requested 253 = .ok (.invokestatic 89, 3) := by decide +kernel
theorem dL_requested_256 : decode cL_requested 256 = .ok (.istore 13, 2) := by decide +kernel
theorem dL_requested_258 : decode cL_requested 258 = .ok (.iload 13, 2) := by decide +kernel
theorem dL_requested_260 : decode cL_requested 260 = .ok (.ifCond .ge 6, 3) := by decide +kernel
theorem dL_requested_263 : decode cL_requested 263 = .ok (.goto 80, 3) := by decide +kernel
theorem dL_requested_266 : decode cL_requested 266 = .ok (.iload 12, 2) := by decide +kernel
theorem dL_requested_268 : decode cL_requested 268 = .ok (.iconst 1, 1) := by decide +kernel
theorem dL_requested_269 : decode cL_requested 269 = .ok (.iload 13, 2) := by decide +kernel
theorem dL_requested_271 : decode cL_requested 271 = .ok (.ishl, 1) := by decide +kernel
theorem dL_requested_272 : decode cL_requested 272 = .ok (.ior, 1) := by decide +kernel
theorem dL_requested_273 : decode cL_requested 273 = .ok (.istore 12, 2) := by decide +kernel
theorem dL_requested_275 : decode cL_requested 275 = .ok (.aload_n 3, 1) := by decide +kernel
theorem dL_requested_276 : decode cL_requested 276 = .ok (.iconst 1, 1) := by decide +kernel
theorem dL_requested_277 : decode cL_requested 277 = .ok (.dup2, 1) := by decide +kernel
theorem dL_requested_278 : decode cL_requested 278 = .ok (.iaload, 1) := by decide +kernel
theorem dL_requested_279 : decode cL_requested 279 = .ok (.iconst 1, 1) := by decide +kernel
theorem dL_requested_280 : decode cL_requested 280 = .ok (.iadd, 1) := by decide +kernel
theorem dL_requested_281 : decode cL_requested 281 = .ok (.iastore, 1) := by decide +kernel
theorem dL_requested_282 : decode cL_requested 282 = .ok (.aload_n 3, 1) := by decide +kernel
theorem dL_requested_283 : decode cL_requested 283 = .ok (.iconst 2, 1) := by decide +kernel
theorem dL_requested_284 : decode cL_requested 284 = .ok (.dup2, 1) := by decide +kernel
theorem dL_requested_285 : decode cL_requested 285 = .ok (.iaload, 1) := by decide +kernel
theorem dL_requested_286 : decode cL_requested 286 = .ok (.aload_n 0, 1) := by decide +kernel
theorem dL_requested_287 : decode cL_requested 287 = .ok (.bipush 6, 2) := by decide +kernel
theorem dL_requested_289 : decode cL_requested 289 = .ok (.iload 13, 2) := by decide +kernel
theorem dL_requested_291 : decode cL_requested 291 = .ok (.imul, 1) := by decide +kernel
theorem dL_requested_292 : decode cL_requested 292 = .ok (.iconst 1, 1) := by decide +kernel
theorem dL_requested_293 : decode cL_requested 293 = .ok (.iadd, 1) := by decide +kernel
theorem dL_requested_294 : decode cL_requested 294 = .ok (.iaload, 1) := by decide +kernel
theorem dL_requested_295 : decode cL_requested 295 = .ok (.iadd, 1) := by decide +kernel
theorem dL_requested_296 : decode cL_requested 296 = .ok (.iastore, 1) := by decide +kernel
theorem dL_requested_297 : decode cL_requested 297 = .ok (.aload_n 0, 1) := by decide +kernel
theorem dL_requested_298 : decode cL_requested 298 = .ok (.aload_n 2, 1) := by decide +kernel
theorem dL_requested_299 : decode cL_requested 299 = .ok (.iload 13, 2) := by decide +kernel
theorem dL_requested_301 : decode cL_requested 301 = .ok (.invokestatic 73, 3) := by decide +kernel
theorem dL_requested_304 : decode cL_requested 304 = .ok (.aload_n 1, 1) := by decide +kernel
theorem dL_requested_305 : decode cL_requested 305 = .ok (.iload 13, 2) := by decide +kernel
theorem dL_requested_307 : decode cL_requested 307 = .ok (.invokestatic 92, 3) := by decide +kernel
theorem dL_requested_310 : decode cL_requested 310 = .ok (.aload_n 0, 1) := by decide +kernel
theorem dL_requested_311 : decode cL_requested 311 = .ok (.bipush 6, 2) := by decide +kernel
theorem dL_requested_313 : decode cL_requested 313 = .ok (.iload 13, 2) := by decide +kernel
theorem dL_requested_315 : decode cL_requested 315 = .ok (.imul, 1) := by decide +kernel
theorem dL_requested_316 : decode cL_requested 316 = .ok (.iconst 1, 1) := by decide +kernel
theorem dL_requested_317 : decode cL_requested 317 = .ok (.iadd, 1) := by decide +kernel
theorem dL_requested_318 : decode cL_requested 318 = .ok (.iconst 0, 1) := by decide +kernel
theorem dL_requested_319 : decode cL_requested 319 = .ok (.iastore, 1) := by decide +kernel
theorem dL_requested_320 : decode cL_requested 320 = .ok (.aload_n 0, 1) := by decide +kernel
theorem dL_requested_321 : decode cL_requested 321 = .ok (.bipush 6, 2) := by decide +kernel
theorem dL_requested_323 : decode cL_requested 323 = .ok (.iload 13, 2) := by decide +kernel
theorem dL_requested_325 : decode cL_requested 325 = .ok (.imul, 1) := by decide +kernel
theorem dL_requested_326 : decode cL_requested 326 = .ok (.iconst 2, 1) := by decide +kernel
theorem dL_requested_327 : decode cL_requested 327 = .ok (.iadd, 1) := by decide +kernel
theorem dL_requested_328 : decode cL_requested 328 = .ok (.dup2, 1) := by decide +kernel
theorem dL_requested_329 : decode cL_requested 329 = .ok (.iaload, 1) := by decide +kernel
theorem dL_requested_330 : decode cL_requested 330 = .ok (.iconst 1, 1) := by decide +kernel
theorem dL_requested_331 : decode cL_requested 331 = .ok (.iadd, 1) := by decide +kernel
theorem dL_requested_332 : decode cL_requested 332 = .ok (.iastore, 1) := by decide +kernel
theorem dL_requested_333 : decode cL_requested 333 = .ok (.aload_n 0, 1) := by decide +kernel
theorem dL_requested_334 : decode cL_requested 334 = .ok (.aload_n 1, 1) := by decide +kernel
theorem dL_requested_335 : decode cL_requested 335 = .ok (.aload_n 2, 1) := by decide +kernel
theorem dL_requested_336 : decode cL_requested 336 = .ok (.invokestatic 96, 3) := by decide +kernel
theorem dL_requested_339 : decode cL_requested 339 = .ok (.pop, 1) := by decide +kernel
theorem dL_requested_340 : decode cL_requested 340 = .ok (.goto (-103), 3) := by decide +kernel
theorem dL_requested_343 : decode cL_requested 343 = .ok (.bipush 8, 2) := by decide +kernel
theorem dL_requested_345 : decode cL_requested 345 = .ok (.iload 12, 2) := by decide +kernel
theorem dL_requested_347 : decode cL_requested 347 = .ok (.imul, 1) := by decide +kernel
theorem dL_requested_348 : decode cL_requested 348 = .ok (.iload 12, 2) := by decide +kernel
theorem dL_requested_350 : decode cL_requested 350 = .ok (.iload 4, 2) := by decide +kernel
theorem dL_requested_352 : decode cL_requested 352 = .ok (.ishr, 1) := by decide +kernel
theorem dL_requested_353 : decode cL_requested 353 = .ok (.iconst 1, 1) := by decide +kernel
theorem dL_requested_354 : decode cL_requested 354 = .ok (.iand, 1) := by decide +kernel
theorem dL_requested_355 : decode cL_requested 355 = .ok (.iconst 1, 1) := by decide +kernel
theorem dL_requested_356 : decode cL_requested 356 = .ok (.if_icmp .ne 7, 3) := by decide +kernel
theorem dL_requested_359 : decode cL_requested 359 = .ok (.iconst 3, 1) := by decide +kernel
theorem dL_requested_360 : decode cL_requested 360 = .ok (.goto 19, 3) := by decide +kernel
theorem dL_requested_363 : decode cL_requested 363 = .ok (.aload_n 0, 1) := by decide +kernel
theorem dL_requested_364 : decode cL_requested 364 = .ok (.bipush 6, 2) := by decide +kernel
theorem dL_requested_366 : decode cL_requested 366 = .ok (.iload 4, 2) := by decide +kernel
theorem dL_requested_368 : decode cL_requested 368 = .ok (.imul, 1) := by decide +kernel
theorem dL_requested_369 : decode cL_requested 369 = .ok (.iaload, 1) := by decide +kernel
theorem dL_requested_370 : decode cL_requested 370 = .ok (.iconst 2, 1) := by decide +kernel
theorem dL_requested_371 : decode cL_requested 371 = .ok (.if_icmp .ne 7, 3) := by decide +kernel
theorem dL_requested_374 : decode cL_requested 374 = .ok (.iconst 2, 1) := by decide +kernel
theorem dL_requested_375 : decode cL_requested 375 = .ok (.goto 4, 3) := by decide +kernel
theorem dL_requested_378 : decode cL_requested 378 = .ok (.iconst 1, 1) := by decide +kernel
theorem dL_requested_379 : decode cL_requested 379 = .ok (.iadd, 1) := by decide +kernel
theorem dL_requested_380 : decode cL_requested 380 = .ok (.ireturn, 1) := by decide +kernel
theorem dL_ended_0 : decode cL_ended 0 = .ok (.aload_n 0, 1) := by decide +kernel
theorem dL_ended_1 : decode cL_ended 1 = .ok (.bipush 6, 2) := by decide +kernel
theorem dL_ended_3 : decode cL_ended 3 = .ok (.iload_n 3, 1) := by decide +kernel
theorem dL_ended_4 : decode cL_ended 4 = .ok (.imul, 1) := by decide +kernel
theorem dL_ended_5 : decode cL_ended 5 = .ok (.iaload, 1) := by decide +kernel
theorem dL_ended_6 : decode cL_ended 6 = .ok (.iconst 2, 1) := by decide +kernel
theorem dL_ended_7 : decode cL_ended 7 = .ok (.if_icmp .ne 9, 3) := by decide +kernel
theorem dL_ended_10 : decode cL_ended 10 = .ok (.aload_n 0, 1) := by decide +kernel
theorem dL_ended_11 : decode cL_ended 11 = .ok (.aload_n 2, 1) := by decide +kernel
theorem dL_ended_12 : decode cL_ended 12 = .ok (.iload_n 3, 1) := by decide +kernel
theorem dL_ended_13 : decode cL_ended 13 = .ok (.invokestatic 73, 3) := by decide +kernel
theorem dL_ended_16 : decode cL_ended 16 = .ok (.aload_n 1, 1) := by decide +kernel
theorem dL_ended_17 : decode cL_ended 17 = .ok (.iload_n 3, 1) := by decide +kernel
theorem dL_ended_18 : decode cL_ended 18 = .ok (.invokestatic 92, 3) := by decide +kernel
theorem dL_ended_21 : decode cL_ended 21 = .ok (.aload_n 0, 1) := by decide +kernel
theorem dL_ended_22 : decode cL_ended 22 = .ok (.bipush 6, 2) := by decide +kernel
theorem dL_ended_24 : decode cL_ended 24 = .ok (.iload_n 3, 1) := by decide +kernel
theorem dL_ended_25 : decode cL_ended 25 = .ok (.imul, 1) := by decide +kernel
theorem dL_ended_26 : decode cL_ended 26 = .ok (.iconst 0, 1) := by decide +kernel
theorem dL_ended_27 : decode cL_ended 27 = .ok (.iastore, 1) := by decide +kernel
theorem dL_ended_28 : decode cL_ended 28 = .ok (.iconst 1, 1) := by decide +kernel
theorem dL_ended_29 : decode cL_ended 29 = .ok (.istore 4, 2) := by decide +kernel
theorem dL_ended_31 : decode cL_ended 31 = .ok (.iload 4, 2) := by decide +kernel
theorem dL_ended_33 : decode cL_ended 33 = .ok (.iconst 4, 1) := by decide +kernel
theorem dL_ended_34 : decode cL_ended 34 = .ok (.if_icmp .ge 19, 3) := by decide +kernel
theorem dL_ended_37 : decode cL_ended 37 = .ok (.aload_n 0, 1) := by decide +kernel
theorem dL_ended_38 : decode cL_ended 38 = .ok (.bipush 6, 2) := by decide +kernel
theorem dL_ended_40 : decode cL_ended 40 = .ok (.iload_n 3, 1) := by decide +kernel
theorem dL_ended_41 : decode cL_ended 41 = .ok (.imul, 1) := by decide +kernel
theorem dL_ended_42 : decode cL_ended 42 = .ok (.iload 4, 2) := by decide +kernel
theorem dL_ended_44 : decode cL_ended 44 = .ok (.iadd, 1) := by decide +kernel
theorem dL_ended_45 : decode cL_ended 45 = .ok (.iconst (-1), 1) := by decide +kernel
theorem dL_ended_46 : decode cL_ended 46 = .ok (.iastore, 1) := by decide +kernel
theorem dL_ended_47 : decode cL_ended 47 = .ok (.iinc 4 1, 3) := by decide +kernel
theorem dL_ended_50 : decode cL_ended 50 = .ok (.goto (-19), 3) := by decide +kernel
theorem dL_ended_53 : decode cL_ended 53 = .ok (.aload_n 0, 1) := by decide +kernel
theorem dL_ended_54 : decode cL_ended 54 = .ok (.aload_n 1, 1) := by decide +kernel
theorem dL_ended_55 : decode cL_ended 55 = .ok (.aload_n 2, 1) := by decide +kernel
theorem dL_ended_56 : decode cL_ended 56 = .ok (.invokestatic 96, 3) := by decide +kernel
theorem dL_ended_59 : decode cL_ended 59 = .ok (.ireturn, 1) := by decide +kernel
