theorem dX0_init_0 : decode cX0_init 0 = .ok (.aload_n 0, 1) := by decide +kernel
theorem dX0_init_1 : decode cX0_init 1 = .ok (.invokespecial 3, 3) := by decide +kernel
theorem dX0_init_4 : decode cX0_init 4 = .ok (.aload_n 0, 1) := by decide +kernel
theorem dX0_init_5 : decode cX0_init 5 = .ok (.bipush 80, 2) := by decide +kernel
theorem dX0_init_7 : decode cX0_init 7 = .ok (.newarray .int, 2) := by decide +kernel
theorem dX0_init_9 : decode cX0_init 9 = .ok (.putfield 9, 3) := by decide +kernel
theorem dX0_init_12 : decode cX0_init 12 = .ok (.return_, 1) := by decide +kernel
theorem dX1_init_0 : decode cX1_init 0 = .ok (.aload_n 0, 1) := by decide +kernel
theorem dX1_init_1 : decode cX1_init 1 = .ok (.invokespecial 3, 3) := by decide +kernel
theorem dX1_init_4 : decode cX1_init 4 = .ok (.aload_n 0, 1) := by decide +kernel
theorem dX1_init_5 : decode cX1_init 5 = .ok (.bipush 8, 2) := by decide +kernel
theorem dX1_init_7 : decode cX1_init 7 = .ok (.anewarray 9, 3) := by decide +kernel
theorem dX1_init_10 : decode cX1_init 10 = .ok (.putfield 11, 3) := by decide +kernel
theorem dX1_init_13 : decode cX1_init 13 = .ok (.iconst 0, 1) := by decide +kernel
theorem dX1_init_14 : decode cX1_init 14 = .ok (.istore_n 1, 1) := by decide +kernel
theorem dX1_init_15 : decode cX1_init 15 = .ok (.iload_n 1, 1) := by decide +kernel
theorem dX1_init_16 : decode cX1_init 16 = .ok (.bipush 8, 2) := by decide +kernel
theorem dX1_init_18 : decode cX1_init 18 = .ok (.if_icmp .ge 22, 3) := by decide +kernel
theorem dX1_init_21 : decode cX1_init 21 = .ok (.aload_n 0, 1) := by decide +kernel
theorem dX1_init_22 : decode cX1_init 22 = .ok (.getfield 11, 3) := by decide +kernel
theorem dX1_init_25 : decode cX1_init 25 = .ok (.iload_n 1, 1) := by decide +kernel
theorem dX1_init_26 : decode cX1_init 26 = .ok (.new 9, 3) := by decide +kernel
theorem dX1_init_29 : decode cX1_init 29 = .ok (.dup, 1) := by decide +kernel
theorem dX1_init_30 : decode cX1_init 30 = .ok (.invokespecial 17, 3) := by decide +kernel
theorem dX1_init_33 : decode cX1_init 33 = .ok (.aastore, 1) := by decide +kernel
theorem dX1_init_34 : decode cX1_init 34 = .ok (.iinc 1 1, 3) := by decide +kernel
theorem dX1_init_37 : decode cX1_init 37 = .ok (.goto (-22), 3) := by decide +kernel
theorem dX1_init_40 : decode cX1_init 40 = .ok (.return_, 1) := by decide +kernel
theorem dX1_save_0 : decode cX1_save 0 = .ok (.aload_n 0, 1) := by decide +kernel
theorem dX1_save_1 : decode cX1_save 1 = .ok (.getfield 11, 3) := by decide +kernel
theorem dX1_save_4 : decode cX1_save 4 = .ok (.aload_n 0, 1) := by decide +kernel
theorem dX1_save_5 : decode cX1_save 5 = .ok (.getfield 18, 3) := by decide +kernel
theorem dX1_save_8 : decode cX1_save 8 = .ok (.aaload, 1) := by decide +kernel
theorem dX1_save_9 : decode cX1_save 9 = .ok (.aload_n 1, 1) := by decide +kernel
theorem dX1_save_10 : decode cX1_save 10 = .ok (.invokevirtual 22, 3) := by decide +kernel
theorem dX1_save_13 : decode cX1_save 13 = .ok (.aload_n 0, 1) := by decide +kernel
theorem dX1_save_14 : decode cX1_save 14 = .ok (.aload_n 0, 1) := by decide +kernel
theorem dX1_save_15 : decode cX1_save 15 = .ok (.getfield 18, 3) := by decide +kernel
theorem dX1_save_18 : decode cX1_save 18 = .ok (.bipush 7, 2) := by decide +kernel
theorem dX1_save_20 : decode cX1_save 20 = .ok (.if_icmp .ne 7, 3) := by decide +kernel
theorem dX1_save_23 : decode cX1_save 23 = .ok (.iconst 0, 1) := by decide +kernel
theorem dX1_save_24 : decode cX1_save 24 = .ok (.goto 9, 3) := by decide +kernel
theorem dX1_save_27 : decode cX1_save 27 = .ok (.aload_n 0, 1) := by decide +kernel
theorem dX1_save_28 : decode cX1_save 28 = .ok (.getfield 18, 3) := by decide +kernel
theorem dX1_save_31 : decode cX1_save 31 = .ok (.iconst 1, 1) := by decide +kernel
theorem dX1_save_32 : decode cX1_save 32 = .ok (.iadd, 1) := by decide +kernel
theorem dX1_save_33 : decode cX1_save 33 = .ok (.putfield 18, 3) := by decide +kernel
theorem dX1_save_36 : decode cX1_save 36 = .ok (.aload_n 0, 1) := by decide +kernel
theorem dX1_save_37 : decode cX1_save 37 = .ok (.getfield 26, 3) := by decide +kernel
theorem dX1_save_40 : decode cX1_save 40 = .ok (.bipush 8, 2) := by decide +kernel
theorem dX1_save_42 : decode cX1_save 42 = .ok (.if_icmp .ge 13, 3) := by decide +kernel
theorem dX1_save_45 : decode cX1_save 45 = .ok (.aload_n 0, 1) := by decide +kernel
theorem dX1_save_46 : decode cX1_save 46 = .ok (.dup, 1) := by decide +kernel
theorem dX1_save_47 : decode cX1_save 47 = .ok (.getfield 26, 3) := by decide +kernel
theorem dX1_save_50 : decode cX1_save 50 = .ok (.iconst 1, 1) := by decide +kernel
theorem dX1_save_51 : decode cX1_save 51 = .ok (.iadd, 1) := by decide +kernel
theorem dX1_save_52 : decode cX1_save 52 = .ok (.putfield 26, 3) := by decide +kernel
theorem dX1_save_55 : decode cX1_save 55 = .ok (.return_, 1) := by decide +kernel
theorem dX2_init_0 : decode cX2_init 0 = .ok (.aload_n 0, 1) := by decide +kernel
theorem dX2_init_1 : decode cX2_init 1 = .ok (.invokespecial 3, 3) := by decide +kernel
theorem dX2_init_4 : decode cX2_init 4 = .ok (.aload_n 0, 1) := by decide +kernel
theorem dX2_init_5 : decode cX2_init 5 = .ok (.bipush 8, 2) := by decide +kernel
theorem dX2_init_7 : decode cX2_init 7 = .ok (.newarray .int, 2) := by decide +kernel
theorem dX2_init_9 : decode cX2_init 9 = .ok (.putfield 9, 3) := by decide +kernel
theorem dX2_init_12 : decode cX2_init 12 = .ok (.aload_n 0, 1) := by decide +kernel
theorem dX2_init_13 : decode cX2_init 13 = .ok (.bipush 8, 2) := by decide +kernel
theorem dX2_init_15 : decode cX2_init 15 = .ok (.newarray .int, 2) := by decide +kernel
theorem dX2_init_17 : decode cX2_init 17 = .ok (.putfield 15, 3) := by decide +kernel
theorem dX2_init_20 : decode cX2_init 20 = .ok (.aload_n 0, 1) := by decide +kernel
theorem dX2_init_21 : decode cX2_init 21 = .ok (.bipush 8, 2) := by decide +kernel
theorem dX2_init_23 : decode cX2_init 23 = .ok (.newarray .int, 2) := by decide +kernel
theorem dX2_init_25 : decode cX2_init 25 = .ok (.putfield 18, 3) := by decide +kernel
theorem dX2_init_28 : decode cX2_init 28 = .ok (.aload_n 0, 1) := by decide +kernel
theorem dX2_init_29 : decode cX2_init 29 = .ok (.bipush 8, 2) := by decide +kernel
theorem dX2_init_31 : decode cX2_init 31 = .ok (.newarray .int, 2) := by decide +kernel
theorem dX2_init_33 : decode cX2_init 33 = .ok (.putfield 21, 3) := by decide +kernel
theorem dX2_init_36 : decode cX2_init 36 = .ok (.aload_n 0, 1) := by decide +kernel
theorem dX2_init_37 : decode cX2_init 37 = .ok (.bipush 8, 2) := by decide +kernel
theorem dX2_init_39 : decode cX2_init 39 = .ok (.newarray .int, 2) := by decide +kernel
theorem dX2_init_41 : decode cX2_init 41 = .ok (.putfield 24, 3) := by decide +kernel
theorem dX2_init_44 : decode cX2_init 44 = .ok (.aload_n 0, 1) := by decide +kernel
theorem dX2_init_45 : decode cX2_init 45 = .ok (.bipush 80, 2) := by decide +kernel
theorem dX2_init_47 : decode cX2_init 47 = .ok (.newarray .int, 2) := by decide +kernel
theorem dX2_init_49 : decode cX2_init 49 = .ok (.putfield 27, 3) := by decide +kernel
theorem dX2_init_52 : decode cX2_init 52 = .ok (.aload_n 0, 1) := by decide +kernel
theorem dX2_init_53 : decode cX2_init 53 = .ok (.bipush 80, 2) := by decide +kernel
theorem dX2_init_55 : decode cX2_init 55 = .ok (.newarray .int, 2) := by decide +kernel
theorem dX2_init_57 : decode cX2_init 57 = .ok (.putfield 30, 3) := by decide +kernel
theorem dX2_init_60 : decode cX2_init 60 = .ok (.aload_n 0, 1) := by decide +kernel
theorem dX2_init_61 : decode cX2_init 61 = .ok (.bipush 10, 2) := by decide +kernel
theorem dX2_init_63 : decode cX2_init 63 = .ok (.newarray .int, 2) := by decide +kernel
theorem dX2_init_65 : decode cX2_init 65 = .ok (.putfield 33, 3) := by decide +kernel
theorem dX2_init_68 : decode cX2_init 68 = .ok (.iconst 0, 1) := by decide +kernel
theorem dX2_init_69 : decode cX2_init 69 = .ok (.istore_n 1, 1) := by decide +kernel
theorem dX2_init_70 : decode cX2_init 70 = .ok (.iload_n 1, 1) := by decide +kernel
theorem dX2_init_71 : decode cX2_init 71 = .ok (.bipush 8, 2) := by decide +kernel
theorem dX2_init_73 : decode cX2_init 73 = .ok (.if_icmp .ge 37, 3) := by decide +kernel
theorem dX2_init_76 : decode cX2_init 76 = .ok (.aload_n 0, 1) := by decide +kernel
theorem dX2_init_77 : decode cX2_init 77 = .ok (.getfield 9, 3) := by decide +kernel
theorem dX2_init_80 : decode cX2_init 80 = .ok (.iload_n 1, 1) := by decide +kernel
theorem dX2_init_81 : decode cX2_init 81 = .ok (.iconst (-1), 1) := by decide +kernel
theorem dX2_init_82 : decode cX2_init 82 = .ok (.iastore, 1) := by decide +kernel
theorem dX2_init_83 : decode cX2_init 83 = .ok (.aload_n 0, 1) := by decide +kernel
theorem dX2_init_84 : decode cX2_init 84 = .ok (.getfield 15, 3) := by decide +kernel
theorem dX2_init_87 : decode cX2_init 87 = .ok (.iload_n 1, 1) := by decide +kernel
theorem dX2_init_88 : decode cX2_init 88 = .ok (.iconst (-1), 1) := by decide +kernel
theorem dX2_init_89 : decode cX2_init 89 = .ok (.iastore, 1) := by decide +kernel
theorem dX2_init_90 : decode cX2_init 90 = .ok (.aload_n 0, 1) := by decide +kernel
theorem dX2_init_91 : decode cX2_init 91 = .ok (.getfield 18, 3) := by decide +kernel
theorem dX2_init_94 : decode cX2_init 94 = .ok (.iload_n 1, 1) := by decide +kernel
theorem dX2_init_95 : decode cX2_init 95 = .ok (.iconst (-1), 1) := by decide +kernel
theorem dX2_init_96 : decode cX2_init 96 = .ok (.iastore, 1) := by decide +kernel
theorem dX2_init_97 : decode cX2_init 97 = .ok (.aload_n 0, 1) := by decide +kernel
theorem dX2_init_98 : decode cX2_init 98 = .ok (.getfield 21, 3) := by decide +kernel
theorem dX2_init_101 : decode cX2_init 101 = .ok (.iload_n 1, 1) := by decide +kernel
theorem dX2_init_102 : decode cX2_init 102 = .ok (.iconst (-1), 1) := by decide +kernel
theorem dX2_init_103 : decode cX2_init 103 = .ok (.iastore, 1) := by decide +kernel
theorem dX2_init_104 : decode cX2_init 104 = .ok (.iinc 1 1, 3) := by decide +kernel
theorem dX2_init_107 : decode cX2_init 107 = .ok (.goto (-37), 3) := by decide +kernel
theorem dX2_init_110 : decode cX2_init 110 = .ok (.return_, 1) := by decide +kernel
theorem dX2_copyFrom_0 : decode cX2_copyFrom 0 = .ok (.aload_n 1, 1) := by decide +kernel
theorem dX2_copyFrom_1 : decode cX2_copyFrom 1 = .ok (.getfield 9, 3) := by decide +kernel
theorem dX2_copyFrom_4 : decode cX2_copyFrom 4 = .ok (.iconst 0, 1) := by decide +kernel
theorem dX2_copyFrom_5 : decode cX2_copyFrom 5 = .ok (.aload_n 0, 1) := by decide +kernel
theorem dX2_copyFrom_6 : decode cX2_copyFrom 6 = .ok (.getfield 9, 3) := by decide +kernel
theorem dX2_copyFrom_9 : decode cX2_copyFrom 9 = .ok (.iconst 0, 1) := by decide +kernel
theorem dX2_copyFrom_10 : decode cX2_copyFrom 10 = .ok (.bipush 8, 2) := by decide +kernel
theorem dX2_copyFrom_12 : decode cX2_copyFrom 12 = .ok (.invokestatic 36, 3) := by decide +kernel
theorem dX2_copyFrom_15 : decode cX2_copyFrom 15 = .ok (.aload_n 1, 1) := by decide +kernel
theorem dX2_copyFrom_16 : decode cX2_copyFrom 16 = .ok (.getfield 15, 3) := by decide +kernel
theorem dX2_copyFrom_19 : decode cX2_copyFrom 19 = .ok (.iconst 0, 1) := by decide +kernel
theorem dX2_copyFrom_20 : decode cX2_copyFrom 20 = .ok (.aload_n 0, 1) := by decide +kernel
theorem dX2_copyFrom_21 : decode cX2_copyFrom 21 = .ok (.getfield 15, 3) := by decide +kernel
theorem dX2_copyFrom_24 : decode cX2_copyFrom 24 = .ok (.iconst 0, 1) := by decide +kernel
theorem dX2_copyFrom_25 : decode cX2_copyFrom 25 = .ok (.bipush 8, 2) := by decide +kernel
theorem dX2_copyFrom_27 : decode cX2_copyFrom 27 = .ok (.invokestatic 36, 3) := by decide +kernel
theorem dX2_copyFrom_30 : decode cX2_copyFrom 30 = .ok (.aload_n 1, 1) := by decide +kernel
theorem dX2_copyFrom_31 : decode cX2_copyFrom 31 = .ok (.getfield 18, 3) := by decide +kernel
theorem dX2_copyFrom_34 : decode cX2_copyFrom 34 = .ok (.iconst 0, 1) := by decide +kernel
theorem dX2_copyFrom_35 : decode cX2_copyFrom 35 = .ok (.aload_n 0, 1) := by decide +kernel
theorem dX2_copyFrom_36 : decode cX2_copyFrom 36 = .ok (.getfield 18, 3) := by decide +kernel
theorem dX2_copyFrom_39 : decode cX2_copyFrom 39 = .ok (.iconst 0, 1) := by decide +kernel
theorem dX2_copyFrom_40 : decode cX2_copyFrom 40 = .ok (.bipush 8, 2) := by decide +kernel
theorem dX2_copyFrom_42 : decode cX2_copyFrom 42 = .ok (.invokestatic 36, 3) := by decide +kernel
theorem dX2_copyFrom_45 : decode cX2_copyFrom 45 = .ok (.aload_n 1, 1) := by decide +kernel
theorem dX2_copyFrom_46 : decode cX2_copyFrom 46 = .ok (.getfield 21, 3) := by decide +kernel
theorem dX2_copyFrom_49 : decode cX2_copyFrom 49 = .ok (.iconst 0, 1) := by decide +kernel
theorem dX2_copyFrom_50 : decode cX2_copyFrom 50 = .ok (.aload_n 0, 1) := by decide +kernel
theorem dX2_copyFrom_51 : decode cX2_copyFrom 51 = .ok (.getfield 21, 3) := by decide +kernel
theorem dX2_copyFrom_54 : decode cX2_copyFrom 54 = .ok (.iconst 0, 1) := by decide +kernel
theorem dX2_copyFrom_55 : decode cX2_copyFrom 55 = .ok (.bipush 8, 2) := by decide +kernel
theorem dX2_copyFrom_57 : decode cX2_copyFrom 57 = .ok (.invokestatic 36, 3) := by decide +kernel
theorem dX2_copyFrom_60 : decode cX2_copyFrom 60 = .ok (.aload_n 1, 1) := by decide +kernel
theorem dX2_copyFrom_61 : decode cX2_copyFrom 61 = .ok (.getfield 24, 3) := by decide +kernel
theorem dX2_copyFrom_64 : decode cX2_copyFrom 64 = .ok (.iconst 0, 1) := by decide +kernel
theorem dX2_copyFrom_65 : decode cX2_copyFrom 65 = .ok (.aload_n 0, 1) := by decide +kernel
theorem dX2_copyFrom_66 : decode cX2_copyFrom 66 = .ok (.getfield 24, 3) := by decide +kernel
theorem dX2_copyFrom_69 : decode cX2_copyFrom 69 = .ok (.iconst 0, 1) := by decide +kernel
theorem dX2_copyFrom_70 : decode cX2_copyFrom 70 = .ok (.bipush 8, 2) := by decide +kernel
theorem dX2_copyFrom_72 : decode cX2_copyFrom 72 = .ok (.invokestatic 36, 3) := by decide +kernel
theorem dX2_copyFrom_75 : decode cX2_copyFrom 75 = .ok (.aload_n 1, 1) := by decide +kernel
theorem dX2_copyFrom_76 : decode cX2_copyFrom 76 = .ok (.getfield 27, 3) := by decide +kernel
theorem dX2_copyFrom_79 : decode cX2_copyFrom 79 = .ok (.iconst 0, 1) := by decide +kernel
theorem dX2_copyFrom_80 : decode cX2_copyFrom 80 = .ok (.aload_n 0, 1) := by decide +kernel
theorem dX2_copyFrom_81 : decode cX2_copyFrom 81 = .ok (.getfield 27, 3) := by decide +kernel
theorem dX2_copyFrom_84 : decode cX2_copyFrom 84 = .ok (.iconst 0, 1) := by decide +kernel
theorem dX2_copyFrom_85 : decode cX2_copyFrom 85 = .ok (.bipush 80, 2) := by decide +kernel
theorem dX2_copyFrom_87 : decode cX2_copyFrom 87 = .ok (.invokestatic 36, 3) := by decide +kernel
theorem dX2_copyFrom_90 : decode cX2_copyFrom 90 = .ok (.aload_n 1, 1) := by decide +kernel
theorem dX2_copyFrom_91 : decode cX2_copyFrom 91 = .ok (.getfield 30, 3) := by decide +kernel
theorem dX2_copyFrom_94 : decode cX2_copyFrom 94 = .ok (.iconst 0, 1) := by decide +kernel
theorem dX2_copyFrom_95 : decode cX2_copyFrom 95 = .ok (.aload_n 0, 1) := by decide +kernel
theorem dX2_copyFrom_96 : decode cX2_copyFrom 96 = .ok (.getfield 30, 3) := by decide +kernel
theorem dX2_copyFrom_99 : decode cX2_copyFrom 99 = .ok (.iconst 0, 1) := by decide +kernel
theorem dX2_copyFrom_100 : decode cX2_copyFrom 100 = .ok (.bipush 80, 2) := by decide +kernel
theorem dX2_copyFrom_102 : decode cX2_copyFrom 102 = .ok (.invokestatic 36, 3) := by decide +kernel
theorem dX2_copyFrom_105 : decode cX2_copyFrom 105 = .ok (.aload_n 1, 1) := by decide +kernel
theorem dX2_copyFrom_106 : decode cX2_copyFrom 106 = .ok (.getfield 33, 3) := by decide +kernel
theorem dX2_copyFrom_109 : decode cX2_copyFrom 109 = .ok (.iconst 0, 1) := by decide +kernel
theorem dX2_copyFrom_110 : decode cX2_copyFrom 110 = .ok (.aload_n 0, 1) := by decide +kernel
theorem dX2_copyFrom_111 : decode cX2_copyFrom 111 = .ok (.getfield 33, 3) := by decide +kernel
theorem dX2_copyFrom_114 : decode cX2_copyFrom 114 = .ok (.iconst 0, 1) := by decide +kernel
theorem dX2_copyFrom_115 : decode cX2_copyFrom 115 = .ok (.bipush 10, 2) := by decide +kernel
theorem dX2_copyFrom_117 : decode cX2_copyFrom 117 = .ok (.invokestatic 36, 3) := by decide +kernel
theorem dX2_copyFrom_120 : decode cX2_copyFrom 120 = .ok (.aload_n 0, 1) := by decide +kernel
theorem dX2_copyFrom_121 : decode cX2_copyFrom 121 = .ok (.aload_n 1, 1) := by decide +kernel
theorem dX2_copyFrom_122 : decode cX2_copyFrom 122 = .ok (.getfield 42, 3) := by decide +kernel
theorem dX2_copyFrom_125 : decode cX2_copyFrom 125 = .ok (.putfield 42, 3) := by decide +kernel
theorem dX2_copyFrom_128 : decode cX2_copyFrom 128 = .ok (.aload_n 0, 1) := by decide +kernel
theorem dX2_copyFrom_129 : decode cX2_copyFrom 129 = .ok (.aload_n 1, 1) := by decide +kernel
theorem dX2_copyFrom_130 : decode cX2_copyFrom 130 = .ok (.getfield 46, 3) := by decide +kernel
theorem dX2_copyFrom_133 : decode cX2_copyFrom 133 = .ok (.putfield 46, 3) := by decide +kernel
theorem dX2_copyFrom_136 : decode cX2_copyFrom 136 = .ok (.aload_n 0, 1) := by decide +kernel
theorem dX2_copyFrom_137 : decode cX2_copyFrom 137 = .ok (.aload_n 1, 1) := by decide +kernel
theorem dX2_copyFrom_138 : decode cX2_copyFrom 138 = .ok (.getfield 49, 3) := by decide +kernel
theorem dX2_copyFrom_141 : decode cX2_copyFrom 141 = .ok (.putfield 49, 3) := by decide +kernel
theorem dX2_copyFrom_144 : decode cX2_copyFrom 144 = .ok (.return_, 1) := by decide +kernel
theorem dX2_stateNow_0 : decode cX2_stateNow 0 = .ok (.aload_n 0, 1) := by decide +kernel
theorem dX2_stateNow_1 : decode cX2_stateNow 1 = .ok (.getfield 9, 3) := by decide +kernel
theorem dX2_stateNow_4 : decode cX2_stateNow 4 = .ok (.iload_n 1, 1) := by decide +kernel
theorem dX2_stateNow_5 : decode cX2_stateNow 5 = .ok (.iaload, 1) := by decide +kernel
theorem dX2_stateNow_6 : decode cX2_stateNow 6 = .ok (.iconst (-1), 1) := by decide +kernel
theorem dX2_stateNow_7 : decode cX2_stateNow 7 = .ok (.if_icmp .ne 5, 3) := by decide +kernel
theorem dX2_stateNow_10 : decode cX2_stateNow 10 = .ok (.iconst 0, 1) := by decide +kernel
theorem dX2_stateNow_11 : decode cX2_stateNow 11 = .ok (.ireturn, 1) := by decide +kernel
theorem dX2_stateNow_12 : decode cX2_stateNow 12 = .ok (.aload_n 0, 1) := by decide +kernel
theorem dX2_stateNow_13 : decode cX2_stateNow 13 = .ok (.getfield 21, 3) := by decide +kernel
theorem dX2_stateNow_16 : decode cX2_stateNow 16 = .ok (.iload_n 1, 1) := by decide +kernel
theorem dX2_stateNow_17 : decode cX2_stateNow 17 = .ok (.iaload, 1) := by decide +kernel
theorem dX2_stateNow_18 : decode cX2_stateNow 18 = .ok (.iconst (-1), 1) := by decide +kernel
theorem dX2_stateNow_19 : decode cX2_stateNow 19 = .ok (.if_icmp .ne 7, 3) := by decide +kernel
theorem dX2_stateNow_22 : decode cX2_stateNow 22 = .ok (.iconst 1, 1) := by decide +kernel
theorem dX2_stateNow_23 : decode cX2_stateNow 23 = .ok (.goto 4, 3) := by decide +kernel
theorem dX2_stateNow_26 : decode cX2_stateNow 26 = .ok (.iconst 2, 1) := by decide +kernel
theorem dX2_stateNow_27 : decode cX2_stateNow 27 = .ok (.ireturn, 1) := by decide +kernel
theorem dX2_outcome_0 : decode cX2_outcome 0 = .ok (.aload_n 0, 1) := by decide +kernel
theorem dX2_outcome_1 : decode cX2_outcome 1 = .ok (.getfield 27, 3) := by decide +kernel
theorem dX2_outcome_4 : decode cX2_outcome 4 = .ok (.iload_n 1, 1) := by decide +kernel
theorem dX2_outcome_5 : decode cX2_outcome 5 = .ok (.bipush 10, 2) := by decide +kernel
theorem dX2_outcome_7 : decode cX2_outcome 7 = .ok (.imul, 1) := by decide +kernel
theorem dX2_outcome_8 : decode cX2_outcome 8 = .ok (.iload_n 2, 1) := by decide +kernel
theorem dX2_outcome_9 : decode cX2_outcome 9 = .ok (.iadd, 1) := by decide +kernel
theorem dX2_outcome_10 : decode cX2_outcome 10 = .ok (.iaload, 1) := by decide +kernel
theorem dX2_outcome_11 : decode cX2_outcome 11 = .ok (.istore 4, 2) := by decide +kernel
theorem dX2_outcome_13 : decode cX2_outcome 13 = .ok (.iload 4, 2) := by decide +kernel
theorem dX2_outcome_15 : decode cX2_outcome 15 = .ok (.iload_n 3, 1) := by decide +kernel
theorem dX2_outcome_16 : decode cX2_outcome 16 = .ok (.if_icmp .eq 9, 3) := by decide +kernel
theorem dX2_outcome_19 : decode cX2_outcome 19 = .ok (.iload 4, 2) := by decide +kernel
theorem dX2_outcome_21 : decode cX2_outcome 21 = .ok (.iconst 2, 1) := by decide +kernel
theorem dX2_outcome_22 : decode cX2_outcome 22 = .ok (.if_icmp .ne 5, 3) := by decide +kernel
theorem dX2_outcome_25 : decode cX2_outcome 25 = .ok (.iconst 1, 1) := by decide +kernel
theorem dX2_outcome_26 : decode cX2_outcome 26 = .ok (.ireturn, 1) := by decide +kernel
theorem dX2_outcome_27 : decode cX2_outcome 27 = .ok (.aload_n 0, 1) := by decide +kernel
theorem dX2_outcome_28 : decode cX2_outcome 28 = .ok (.getfield 21, 3) := by decide +kernel
theorem dX2_outcome_31 : decode cX2_outcome 31 = .ok (.iload_n 1, 1) := by decide +kernel
theorem dX2_outcome_32 : decode cX2_outcome 32 = .ok (.iaload, 1) := by decide +kernel
theorem dX2_outcome_33 : decode cX2_outcome 33 = .ok (.iconst (-1), 1) := by decide +kernel
theorem dX2_outcome_34 : decode cX2_outcome 34 = .ok (.if_icmp .ne 7, 3) := by decide +kernel
theorem dX2_outcome_37 : decode cX2_outcome 37 = .ok (.iconst 3, 1) := by decide +kernel
theorem dX2_outcome_38 : decode cX2_outcome 38 = .ok (.goto 4, 3) := by decide +kernel
theorem dX2_outcome_41 : decode cX2_outcome 41 = .ok (.iconst 2, 1) := by decide +kernel
theorem dX2_outcome_42 : decode cX2_outcome 42 = .ok (.ireturn, 1) := by decide +kernel
theorem dX2_holderSet_0 : decode cX2_holderSet 0 = .ok (.iconst 0, 1) := by decide +kernel
theorem dX2_holderSet_1 : decode cX2_holderSet 1 = .ok (.istore_n 2, 1) := by decide +kernel
theorem dX2_holderSet_2 : decode cX2_holderSet 2 = .ok (.iconst 0, 1) := by decide +kernel
theorem dX2_holderSet_3 : decode cX2_holderSet 3 = .ok (.istore_n 3, 1) := by decide +kernel
theorem dX2_holderSet_4 : decode cX2_holderSet 4 = .ok (.iload_n 3, 1) := by decide +kernel
theorem dX2_holderSet_5 : decode cX2_holderSet 5 = .ok (.bipush 8, 2) := by decide +kernel
theorem dX2_holderSet_7 : decode cX2_holderSet 7 = .ok (.if_icmp .ge 29, 3) := by decide +kernel
theorem dX2_holderSet_10 : decode cX2_holderSet 10 = .ok (.aload_n 0, 1) := by decide +kernel
theorem dX2_holderSet_11 : decode cX2_holderSet 11 = .ok (.getfield 27, 3) := by decide +kernel
theorem dX2_holderSet_14 : decode cX2_holderSet 14 = .ok (.iload_n 3, 1) := by decide +kernel
theorem dX2_holderSet_15 : decode cX2_holderSet 15 = .ok (.bipush 10, 2) := by decide +kernel
theorem dX2_holderSet_17 : decode cX2_holderSet 17 = .ok (.imul, 1) := by decide +kernel
theorem dX2_holderSet_18 : decode cX2_holderSet 18 = .ok (.iload_n 1, 1) := by decide +kernel
theorem dX2_holderSet_19 : decode cX2_holderSet 19 = .ok (.iadd, 1) := by decide +kernel
theorem dX2_holderSet_20 : decode cX2_holderSet 20 = .ok (.iaload, 1) := by decide +kernel
theorem dX2_holderSet_21 : decode cX2_holderSet 21 = .ok (.ifCond .eq 9, 3) := by decide +kernel
theorem dX2_holderSet_24 : decode cX2_holderSet 24 = .ok (.iload_n 2, 1) := by decide +kernel
theorem dX2_holderSet_25 : decode cX2_holderSet 25 = .ok (.iconst 1, 1) := by decide +kernel
theorem dX2_holderSet_26 : decode cX2_holderSet 26 = .ok (.iload_n 3, 1) := by decide +kernel
theorem dX2_holderSet_27 : decode cX2_holderSet 27 = .ok (.ishl, 1) := by decide +kernel
theorem dX2_holderSet_28 : decode cX2_holderSet 28 = .ok (.ior, 1) := by decide +kernel
theorem dX2_holderSet_29 : decode cX2_holderSet 29 = .ok (.istore_n 2, 1) := by decide +kernel
theorem dX2_holderSet_30 : decode cX2_holderSet 30 = .ok (.iinc 3 1, 3) := by decide +kernel
theorem dX2_holderSet_33 : decode cX2_holderSet 33 = .ok (.goto (-29), 3) := by decide +kernel
theorem dX2_holderSet_36 : decode cX2_holderSet 36 = .ok (.iload_n 2, 1) := by decide +kernel
theorem dX2_holderSet_37 : decode cX2_holderSet 37 = .ok (.ireturn, 1) := by decide +kernel
theorem dX2_rivalHolders_0 : decode cX2_rivalHolders 0 = .ok (.iconst 0, 1) := by decide +kernel
theorem dX2_rivalHolders_1 : decode cX2_rivalHolders 1 = .ok (.istore 4, 2) := by decide +kernel
theorem dX2_rivalHolders_3 : decode cX2_rivalHolders 3 = .ok (.iconst 0, 1) := by decide +kernel
theorem dX2_rivalHolders_4 : decode cX2_rivalHolders 4 = .ok (.istore 5, 2) := by decide +kernel
theorem dX2_rivalHolders_6 : decode cX2_rivalHolders 6 = .ok (.iload 5, 2) := by decide +kernel
theorem dX2_rivalHolders_8 : decode cX2_rivalHolders 8 = .ok (.bipush 8, 2) := by decide +kernel
theorem dX2_rivalHolders_10 : decode cX2_rivalHolders 10 = .ok (.if_icmp .ge 66, 3) := by decide +kernel
theorem dX2_rivalHolders_13 : decode cX2_rivalHolders 13 = .ok (.aload_n 0, 1) := by decide +kernel
theorem dX2_rivalHolders_14 : decode cX2_rivalHolders 14 = .ok (.getfield 27, 3) := by decide +kernel
theorem dX2_rivalHolders_17 : decode cX2_rivalHolders 17 = .ok (.iload 5, 2) := by decide +kernel
theorem dX2_rivalHolders_19 : decode cX2_rivalHolders 19 = .ok (.bipush 10, 2) := by decide +kernel
theorem dX2_rivalHolders_21 : decode cX2_rivalHolders 21 = .ok (.imul, 1) := by decide +kernel
theorem dX2_rivalHolders_22 : decode cX2_rivalHolders 22 = .ok (.iload_n 2, 1) := by decide +kernel
theorem dX2_rivalHolders_23 : decode cX2_rivalHolders 23 = .ok (.iadd, 1) := by decide +kernel
theorem dX2_rivalHolders_24 : decode cX2_rivalHolders 24 = .ok (.iaload, 1) := by decide +kernel
theorem dX2_rivalHolders_25 : decode cX2_rivalHolders 25 = .ok (.istore 6, 2) := by decide +kernel
theorem dX2_rivalHolders_27 : decode cX2_rivalHolders 27 = .ok (.iload 6, 2) := by decide +kernel
theorem dX2_rivalHolders_29 : decode cX2_rivalHolders 29 = .ok (.ifCond .eq 14, 3) := by decide +kernel
theorem dX2_rivalHolders_32 : decode cX2_rivalHolders 32 = .ok (.iload 6, 2) := by decide +kernel
theorem dX2_rivalHolders_34 : decode cX2_rivalHolders 34 = .ok (.iconst 1, 1) := by decide +kernel
theorem dX2_rivalHolders_35 : decode cX2_rivalHolders 35 = .ok (.if_icmp .ne 12, 3) := by decide +kernel
theorem dX2_rivalHolders_38 : decode cX2_rivalHolders 38 = .ok (.iload_n 3, 1) := by decide +kernel
theorem dX2_rivalHolders_39 : decode cX2_rivalHolders 39 = .ok (.iconst 1, 1) := by decide +kernel
theorem dX2_rivalHolders_40 : decode cX2_rivalHolders 40 = .ok (.if_icmp .ne 7, 3) := by decide +kernel
theorem dX2_rivalHolders_43 : decode cX2_rivalHolders 43 = .ok (.iconst 1, 1) := by decide +kernel
theorem dX2_rivalHolders_44 : decode cX2_rivalHolders 44 = .ok (.goto 4, 3) := by decide +kernel
theorem dX2_rivalHolders_47 : decode cX2_rivalHolders 47 = .ok (.iconst 0, 1) := by decide +kernel
theorem dX2_rivalHolders_48 : decode cX2_rivalHolders 48 = .ok (.istore 7, 2) := by decide +kernel
theorem dX2_rivalHolders_50 : decode cX2_rivalHolders 50 = .ok (.iload 5, 2) := by decide +kernel
theorem dX2_rivalHolders_52 : decode cX2_rivalHolders 52 = .ok (.iload_n 1, 1) := by decide +kernel
theorem dX2_rivalHolders_53 : decode cX2_rivalHolders 53 = .ok (.if_icmp .eq 17, 3) := by decide +kernel
theorem dX2_rivalHolders_56 : decode cX2_rivalHolders 56 = .ok (.iload 7, 2) := by decide +kernel
theorem dX2_rivalHolders_58 : decode cX2_rivalHolders 58 = .ok (.ifCond .ne 12, 3) := by decide +kernel
theorem dX2_rivalHolders_61 : decode cX2_rivalHolders 61 = .ok (.iload 4, 2) := by decide +kernel
theorem dX2_rivalHolders_63 : decode cX2_rivalHolders 63 = .ok (.iconst 1, 1) := by decide +kernel
theorem dX2_rivalHolders_64 : decode cX2_rivalHolders 64 = .ok (.iload 5, 2) := by decide +kernel
theorem dX2_rivalHolders_66 : decode cX2_rivalHolders 66 = .ok (.ishl, 1) := by decide +kernel
theorem dX2_rivalHolders_67 : decode cX2_rivalHolders 67 = .ok (.ior, 1) := by decide +kernel
theorem dX2_rivalHolders_68 : decode cX2_rivalHolders 68 = .ok (.istore 4, 2) := by decide +kernel
theorem dX2_rivalHolders_70 : decode cX2_rivalHolders 70 = .ok (.iinc 5 1, 3) := by decide +kernel
theorem dX2_rivalHolders_73 : decode cX2_rivalHolders 73 = .ok (.goto (-67), 3) := by decide +kernel
theorem dX2_rivalHolders_76 : decode cX2_rivalHolders 76 = .ok (.iload 4, 2) := by decide +kernel
theorem dX2_rivalHolders_78 : decode cX2_rivalHolders 78 = .ok (.ireturn, 1) := by decide +kernel
theorem dX2_rivalsAhead_0 : decode cX2_rivalsAhead 0 = .ok (.iconst 0, 1) := by decide +kernel
theorem dX2_rivalsAhead_1 : decode cX2_rivalsAhead 1 = .ok (.istore_n 3, 1) := by decide +kernel
theorem dX2_rivalsAhead_2 : decode cX2_rivalsAhead 2 = .ok (.iload_n 2, 1) := by decide +kernel
theorem dX2_rivalsAhead_3 : decode cX2_rivalsAhead 3 = .ok (.bipush 8, 2) := by decide +kernel
theorem dX2_rivalsAhead_5 : decode cX2_rivalsAhead 5 = .ok (.imul, 1) := by decide +kernel
theorem dX2_rivalsAhead_6 : decode cX2_rivalsAhead 6 = .ok (.istore 4, 2) := by decide +kernel
theorem dX2_rivalsAhead_8 : decode cX2_rivalsAhead 8 = .ok (.iconst 0, 1) := by decide +kernel
theorem dX2_rivalsAhead_9 : decode cX2_rivalsAhead 9 = .ok (.istore 5, 2) := by decide +kernel
theorem dX2_rivalsAhead_11 : decode cX2_rivalsAhead 11 = .ok (.iload 5, 2) := by decide +kernel
theorem dX2_rivalsAhead_13 : decode cX2_rivalsAhead 13 = .ok (.aload_n 0, 1) := by decide +kernel
theorem dX2_rivalsAhead_14 : decode cX2_rivalsAhead 14 = .ok (.getfield 33, 3) := by decide +kernel
theorem dX2_rivalsAhead_17 : decode cX2_rivalsAhead 17 = .ok (.iload_n 2, 1) := by decide +kernel
theorem dX2_rivalsAhead_18 : decode cX2_rivalsAhead 18 = .ok (.iaload, 1) := by decide +kernel
theorem dX2_rivalsAhead_19 : decode cX2_rivalsAhead 19 = .ok (.if_icmp .ge 58, 3) := by decide +kernel
theorem dX2_rivalsAhead_22 : decode cX2_rivalsAhead 22 = .ok (.aload_n 0, 1) := by decide +kernel
theorem dX2_rivalsAhead_23 : decode cX2_rivalsAhead 23 = .ok (.getfield 30, 3) := by decide +kernel
theorem dX2_rivalsAhead_26 : decode cX2_rivalsAhead 26 = .ok (.iload 4, 2) := by decide +kernel
theorem dX2_rivalsAhead_28 : decode cX2_rivalsAhead 28 = .ok (.iload 5, 2) := by decide +kernel
theorem dX2_rivalsAhead_30 : decode cX2_rivalsAhead 30 = .ok (.iadd, 1) := by decide +kernel
theorem dX2_rivalsAhead_31 : decode cX2_rivalsAhead 31 = .ok (.iaload, 1) := by decide +kernel
theorem dX2_rivalsAhead_32 : decode cX2_rivalsAhead 32 = .ok (.istore 6, 2) := by decide +kernel
theorem dX2_rivalsAhead_34 : decode cX2_rivalsAhead 34 = .ok (.iload 6, 2) := by decide +kernel
theorem dX2_rivalsAhead_36 : decode cX2_rivalsAhead 36 = .ok (.iload_n 1, 1) := by decide +kernel
theorem dX2_rivalsAhead_37 : decode cX2_rivalsAhead 37 = .ok (.if_icmp .ne 6, 3) := by decide +kernel
theorem dX2_rivalsAhead_40 : decode cX2_rivalsAhead 40 = .ok (.goto 37, 3) := by decide +kernel
theorem dX2_rivalsAhead_43 : decode cX2_rivalsAhead 43 = .ok (.aload_n 0, 1) := by decide +kernel
theorem dX2_rivalsAhead_44 : decode cX2_rivalsAhead 44 = .ok (.getfield 24, 3) := by decide +kernel
theorem dX2_rivalsAhead_47 : decode cX2_rivalsAhead 47 = .ok (.iload_n 1, 1) := by decide +kernel
theorem dX2_rivalsAhead_48 : decode cX2_rivalsAhead 48 = .ok (.iaload, 1) := by decide +kernel
theorem dX2_rivalsAhead_49 : decode cX2_rivalsAhead 49 = .ok (.iconst 2, 1) := by decide +kernel
theorem dX2_rivalsAhead_50 : decode cX2_rivalsAhead 50 = .ok (.if_icmp .eq 14, 3) := by decide +kernel
theorem dX2_rivalsAhead_53 : decode cX2_rivalsAhead 53 = .ok (.aload_n 0, 1) := by decide +kernel
theorem dX2_rivalsAhead_54 : decode cX2_rivalsAhead 54 = .ok (.getfield 24, 3) := by decide +kernel
theorem dX2_rivalsAhead_57 : decode cX2_rivalsAhead 57 = .ok (.iload 6, 2) := by decide +kernel
theorem dX2_rivalsAhead_59 : decode cX2_rivalsAhead 59 = .ok (.iaload, 1) := by decide +kernel
theorem dX2_rivalsAhead_60 : decode cX2_rivalsAhead 60 = .ok (.iconst 2, 1) := by decide +kernel
theorem dX2_rivalsAhead_61 : decode cX2_rivalsAhead 61 = .ok (.if_icmp .ne 10, 3) := by decide +kernel
theorem dX2_rivalsAhead_64 : decode cX2_rivalsAhead 64 = .ok (.iload_n 3, 1) := by decide +kernel
theorem dX2_rivalsAhead_65 : decode cX2_rivalsAhead 65 = .ok (.iconst 1, 1) := by decide +kernel
theorem dX2_rivalsAhead_66 : decode cX2_rivalsAhead 66 = .ok (.iload 6, 2) := by decide +kernel
theorem dX2_rivalsAhead_68 : decode cX2_rivalsAhead 68 = .ok (.ishl, 1) := by decide +kernel
theorem dX2_rivalsAhead_69 : decode cX2_rivalsAhead 69 = .ok (.ior, 1) := by decide +kernel
theorem dX2_rivalsAhead_70 : decode cX2_rivalsAhead 70 = .ok (.istore_n 3, 1) := by decide +kernel
theorem dX2_rivalsAhead_71 : decode cX2_rivalsAhead 71 = .ok (.iinc 5 1, 3) := by decide +kernel
theorem dX2_rivalsAhead_74 : decode cX2_rivalsAhead 74 = .ok (.goto (-63), 3) := by decide +kernel
theorem dX2_rivalsAhead_77 : decode cX2_rivalsAhead 77 = .ok (.iload_n 3, 1) := by decide +kernel
theorem dX2_rivalsAhead_78 : decode cX2_rivalsAhead 78 = .ok (.ireturn, 1) := by decide +kernel
theorem dX2_waitedFor_0 : decode cX2_waitedFor 0 = .ok (.aload_n 0, 1) := by decide +kernel
theorem dX2_waitedFor_1 : decode cX2_waitedFor 1 = .ok (.getfield 21, 3) := by decide +kernel
theorem dX2_waitedFor_4 : decode cX2_waitedFor 4 = .ok (.iload_n 1, 1) := by decide +kernel
theorem dX2_waitedFor_5 : decode cX2_waitedFor 5 = .ok (.iaload, 1) := by decide +kernel
theorem dX2_waitedFor_6 : decode cX2_waitedFor 6 = .ok (.istore_n 2, 1) := by decide +kernel
theorem dX2_waitedFor_7 : decode cX2_waitedFor 7 = .ok (.iload_n 2, 1) := by decide +kernel
theorem dX2_waitedFor_8 : decode cX2_waitedFor 8 = .ok (.iconst (-1), 1) := by decide +kernel
theorem dX2_waitedFor_9 : decode cX2_waitedFor 9 = .ok (.if_icmp .ne 5, 3) := by decide +kernel
theorem dX2_waitedFor_12 : decode cX2_waitedFor 12 = .ok (.iconst 0, 1) := by decide +kernel
theorem dX2_waitedFor_13 : decode cX2_waitedFor 13 = .ok (.ireturn, 1) := by decide +kernel
theorem dX2_waitedFor_14 : decode cX2_waitedFor 14 = .ok (.aload_n 0, 1) := by decide +kernel
theorem dX2_waitedFor_15 : decode cX2_waitedFor 15 = .ok (.iload_n 1, 1) := by decide +kernel
theorem dX2_waitedFor_16 : decode cX2_waitedFor 16 = .ok (.iload_n 2, 1) := by decide +kernel
theorem dX2_waitedFor_17 : decode cX2_waitedFor 17 = .ok (.aload_n 0, 1) := by decide +kernel
theorem dX2_waitedFor_18 : decode cX2_waitedFor 18 = .ok (.getfield 24, 3) := by decide +kernel
theorem dX2_waitedFor_21 : decode cX2_waitedFor 21 = .ok (.iload_n 1, 1) := by decide +kernel
theorem dX2_waitedFor_22 : decode cX2_waitedFor 22 = .ok (.iaload, 1) := by decide +kernel
theorem dX2_waitedFor_23 : decode cX2_waitedFor 23 = .ok (.invokevirtual 52, 3) := by decide +kernel
theorem dX2_waitedFor_26 : decode cX2_waitedFor 26 = .ok (.aload_n 0, 1) := by decide +kernel
theorem dX2_waitedFor_27 : decode cX2_waitedFor 27 = .ok (.iload_n 1, 1) := by decide +kernel
theorem dX2_waitedFor_28 : decode cX2_waitedFor 28 = .ok (.iload_n 2, 1) := by decide +kernel
theorem dX2_waitedFor_29 : decode cX2_waitedFor 29 = .ok (.invokevirtual 56, 3) := by decide +kernel
theorem dX2_waitedFor_32 : decode cX2_waitedFor 32 = .ok (.ior, 1) := by decide +kernel
theorem dX2_waitedFor_33 : decode cX2_waitedFor 33 = .ok (.ireturn, 1) := by decide +kernel
theorem dX2_allWaitedFor_0 : decode cX2_allWaitedFor 0 = .ok (.aload_n 0, 1) := by decide +kernel
theorem dX2_allWaitedFor_1 : decode cX2_allWaitedFor 1 = .ok (.iload_n 1, 1) := by decide +kernel
theorem dX2_allWaitedFor_2 : decode cX2_allWaitedFor 2 = .ok (.invokevirtual 60, 3) := by decide +kernel
theorem dX2_allWaitedFor_5 : decode cX2_allWaitedFor 5 = .ok (.istore_n 2, 1) := by decide +kernel
theorem dX2_allWaitedFor_6 : decode cX2_allWaitedFor 6 = .ok (.iconst 1, 1) := by decide +kernel
theorem dX2_allWaitedFor_7 : decode cX2_allWaitedFor 7 = .ok (.istore_n 3, 1) := by decide +kernel
theorem dX2_allWaitedFor_8 : decode cX2_allWaitedFor 8 = .ok (.iload_n 3, 1) := by decide +kernel
theorem dX2_allWaitedFor_9 : decode cX2_allWaitedFor 9 = .ok (.bipush 8, 2) := by decide +kernel
theorem dX2_allWaitedFor_11 : decode cX2_allWaitedFor 11 = .ok (.if_icmp .ge 44, 3) := by decide +kernel
theorem dX2_allWaitedFor_14 : decode cX2_allWaitedFor 14 = .ok (.iconst 0, 1) := by decide +kernel
theorem dX2_allWaitedFor_15 : decode cX2_allWaitedFor 15 = .ok (.istore 4, 2) := by decide +kernel
theorem dX2_allWaitedFor_17 : decode cX2_allWaitedFor 17 = .ok (.iload 4, 2) := by decide +kernel
theorem dX2_allWaitedFor_19 : decode cX2_allWaitedFor 19 = .ok (.bipush 8, 2) := by decide +kernel
theorem dX2_allWaitedFor_21 : decode cX2_allWaitedFor 21 = .ok (.if_icmp .ge 28, 3) := by decide +kernel
theorem dX2_allWaitedFor_24 : decode cX2_allWaitedFor 24 = .ok (.iload_n 2, 1) := by decide +kernel
theorem dX2_allWaitedFor_25 : decode cX2_allWaitedFor 25 = .ok (.iload 4, 2) := by decide +kernel
theorem dX2_allWaitedFor_27 : decode cX2_allWaitedFor 27 = .ok (.ishr, 1) := by decide +kernel
theorem dX2_allWaitedFor_28 : decode cX2_allWaitedFor 28 = .ok (.iconst 1, 1) := by decide +kernel
theorem dX2_allWaitedFor_29 : decode cX2_allWaitedFor 29 = .ok (.iand, 1) := by decide +kernel
theorem dX2_allWaitedFor_30 : decode cX2_allWaitedFor 30 = .ok (.iconst 1, 1) := by decide +kernel
theorem dX2_allWaitedFor_31 : decode cX2_allWaitedFor 31 = .ok (.if_icmp .ne 12, 3) := by decide +kernel
theorem dX2_allWaitedFor_34 : decode cX2_allWaitedFor 34 = .ok (.iload_n 2, 1) := by decide +kernel
theorem dX2_allWaitedFor_35 : decode cX2_allWaitedFor 35 = .ok (.aload_n 0, 1) := by decide +kernel
theorem dX2_allWaitedFor_36 : decode cX2_allWaitedFor 36 = .ok (.iload 4, 2) := by decide +kernel
theorem dX2_allWaitedFor_38 : decode cX2_allWaitedFor 38 = .ok (.invokevirtual 60, 3) := by decide +kernel
theorem dX2_allWaitedFor_41 : decode cX2_allWaitedFor 41 = .ok (.ior, 1) := by decide +kernel
theorem dX2_allWaitedFor_42 : decode cX2_allWaitedFor 42 = .ok (.istore_n 2, 1) := by decide +kernel
theorem dX2_allWaitedFor_43 : decode cX2_allWaitedFor 43 = .ok (.iinc 4 1, 3) := by decide +kernel
theorem dX2_allWaitedFor_46 : decode cX2_allWaitedFor 46 = .ok (.goto (-29), 3) := by decide +kernel
theorem dX2_allWaitedFor_49 : decode cX2_allWaitedFor 49 = .ok (.iinc 3 1, 3) := by decide +kernel
theorem dX2_allWaitedFor_52 : decode cX2_allWaitedFor 52 = .ok (.goto (-44), 3) := by decide +kernel
theorem dX2_allWaitedFor_55 : decode cX2_allWaitedFor 55 = .ok (.iload_n 2, 1) := by decide +kernel
theorem dX2_allWaitedFor_56 : decode cX2_allWaitedFor 56 = .ok (.ireturn, 1) := by decide +kernel
theorem dX2_start_0 : decode cX2_start 0 = .ok (.aload_n 0, 1) := by decide +kernel
theorem dX2_start_1 : decode cX2_start 1 = .ok (.getfield 9, 3) := by decide +kernel
theorem dX2_start_4 : decode cX2_start 4 = .ok (.iload_n 1, 1) := by decide +kernel
theorem dX2_start_5 : decode cX2_start 5 = .ok (.aload_n 0, 1) := by decide +kernel
theorem dX2_start_6 : decode cX2_start 6 = .ok (.getfield 42, 3) := by decide +kernel
theorem dX2_start_9 : decode cX2_start 9 = .ok (.iastore, 1) := by decide +kernel
theorem dX2_start_10 : decode cX2_start 10 = .ok (.aload_n 0, 1) := by decide +kernel
theorem dX2_start_11 : decode cX2_start 11 = .ok (.getfield 15, 3) := by decide +kernel
theorem dX2_start_14 : decode cX2_start 14 = .ok (.iload_n 1, 1) := by decide +kernel
theorem dX2_start_15 : decode cX2_start 15 = .ok (.iconst 0, 1) := by decide +kernel
theorem dX2_start_16 : decode cX2_start 16 = .ok (.iastore, 1) := by decide +kernel
theorem dX2_start_17 : decode cX2_start 17 = .ok (.aload_n 0, 1) := by decide +kernel
theorem dX2_start_18 : decode cX2_start 18 = .ok (.getfield 18, 3) := by decide +kernel
theorem dX2_start_21 : decode cX2_start 21 = .ok (.iload_n 1, 1) := by decide +kernel
theorem dX2_start_22 : decode cX2_start 22 = .ok (.iconst 0, 1) := by decide +kernel
theorem dX2_start_23 : decode cX2_start 23 = .ok (.iastore, 1) := by decide +kernel
theorem dX2_start_24 : decode cX2_start 24 = .ok (.aload_n 0, 1) := by decide +kernel
theorem dX2_start_25 : decode cX2_start 25 = .ok (.dup, 1) := by decide +kernel
theorem dX2_start_26 : decode cX2_start 26 = .ok (.getfield 42, 3) := by decide +kernel
theorem dX2_start_29 : decode cX2_start 29 = .ok (.iconst 1, 1) := by decide +kernel
theorem dX2_start_30 : decode cX2_start 30 = .ok (.iadd, 1) := by decide +kernel
theorem dX2_start_31 : decode cX2_start 31 = .ok (.putfield 42, 3) := by decide +kernel
theorem dX2_start_34 : decode cX2_start 34 = .ok (.return_, 1) := by decide +kernel
theorem dX2_place_0 : decode cX2_place 0 = .ok (.aload_n 0, 1) := by decide +kernel
theorem dX2_place_1 : decode cX2_place 1 = .ok (.getfield 27, 3) := by decide +kernel
theorem dX2_place_4 : decode cX2_place 4 = .ok (.iload_n 1, 1) := by decide +kernel
theorem dX2_place_5 : decode cX2_place 5 = .ok (.bipush 10, 2) := by decide +kernel
theorem dX2_place_7 : decode cX2_place 7 = .ok (.imul, 1) := by decide +kernel
theorem dX2_place_8 : decode cX2_place 8 = .ok (.iload_n 2, 1) := by decide +kernel
theorem dX2_place_9 : decode cX2_place 9 = .ok (.iadd, 1) := by decide +kernel
theorem dX2_place_10 : decode cX2_place 10 = .ok (.iaload, 1) := by decide +kernel
theorem dX2_place_11 : decode cX2_place 11 = .ok (.istore 4, 2) := by decide +kernel
theorem dX2_place_13 : decode cX2_place 13 = .ok (.iload 4, 2) := by decide +kernel
theorem dX2_place_15 : decode cX2_place 15 = .ok (.iload_n 3, 1) := by decide +kernel
theorem dX2_place_16 : decode cX2_place 16 = .ok (.if_icmp .eq 9, 3) := by decide +kernel
theorem dX2_place_19 : decode cX2_place 19 = .ok (.iload 4, 2) := by decide +kernel
theorem dX2_place_21 : decode cX2_place 21 = .ok (.iconst 2, 1) := by decide +kernel
theorem dX2_place_22 : decode cX2_place 22 = .ok (.if_icmp .ne 5, 3) := by decide +kernel
theorem dX2_place_25 : decode cX2_place 25 = .ok (.iconst 0, 1) := by decide +kernel
theorem dX2_place_26 : decode cX2_place 26 = .ok (.ireturn, 1) := by decide +kernel
theorem dX2_place_27 : decode cX2_place 27 = .ok (.iload 4, 2) := by decide +kernel
theorem dX2_place_29 : decode cX2_place 29 = .ok (.iconst 1, 1) := by decide +kernel
theorem dX2_place_30 : decode cX2_place 30 = .ok (.if_icmp .ne 7, 3) := by decide +kernel
theorem dX2_place_33 : decode cX2_place 33 = .ok (.iconst 1, 1) := by decide +kernel
theorem dX2_place_34 : decode cX2_place 34 = .ok (.goto 4, 3) := by decide +kernel
theorem dX2_place_37 : decode cX2_place 37 = .ok (.iconst 0, 1) := by decide +kernel
theorem dX2_place_38 : decode cX2_place 38 = .ok (.istore 5, 2) := by decide +kernel
theorem dX2_place_40 : decode cX2_place 40 = .ok (.iload 5, 2) := by decide +kernel
theorem dX2_place_42 : decode cX2_place 42 = .ok (.ifCond .ne 12, 3) := by decide +kernel
theorem dX2_place_45 : decode cX2_place 45 = .ok (.aload_n 0, 1) := by decide +kernel
theorem dX2_place_46 : decode cX2_place 46 = .ok (.getfield 33, 3) := by decide +kernel
theorem dX2_place_49 : decode cX2_place 49 = .ok (.iload_n 2, 1) := by decide +kernel
theorem dX2_place_50 : decode cX2_place 50 = .ok (.iaload, 1) := by decide +kernel
theorem dX2_place_51 : decode cX2_place 51 = .ok (.ifCond .ne 7, 3) := by decide +kernel
theorem dX2_place_54 : decode cX2_place 54 = .ok (.iconst 1, 1) := by decide +kernel
theorem dX2_place_55 : decode cX2_place 55 = .ok (.goto 4, 3) := by decide +kernel
theorem dX2_place_58 : decode cX2_place 58 = .ok (.iconst 0, 1) := by decide +kernel
theorem dX2_place_59 : decode cX2_place 59 = .ok (.istore 6, 2) := by decide +kernel
theorem dX2_place_61 : decode cX2_place 61 = .ok (.iload 6, 2) := by decide +kernel
theorem dX2_place_63 : decode cX2_place 63 = .ok (.ifCond .eq 22, 3) := by decide +kernel
theorem dX2_place_66 : decode cX2_place 66 = .ok (.aload_n 0, 1) := by decide +kernel
theorem dX2_place_67 : decode cX2_place 67 = .ok (.iload_n 1, 1) := by decide +kernel
theorem dX2_place_68 : decode cX2_place 68 = .ok (.iload_n 2, 1) := by decide +kernel
theorem dX2_place_69 : decode cX2_place 69 = .ok (.iload_n 3, 1) := by decide +kernel
theorem dX2_place_70 : decode cX2_place 70 = .ok (.invokevirtual 52, 3) := by decide +kernel
theorem dX2_place_73 : decode cX2_place 73 = .ok (.ifCond .ne 12, 3) := by decide +kernel
theorem dX2_place_76 : decode cX2_place 76 = .ok (.aload_n 0, 1) := by decide +kernel
theorem dX2_place_77 : decode cX2_place 77 = .ok (.iload_n 1, 1) := by decide +kernel
theorem dX2_place_78 : decode cX2_place 78 = .ok (.iload_n 2, 1) := by decide +kernel
theorem dX2_place_79 : decode cX2_place 79 = .ok (.iload_n 3, 1) := by decide +kernel
theorem dX2_place_80 : decode cX2_place 80 = .ok (.invokevirtual 64, 3) := by decide +kernel
theorem dX2_place_83 : decode cX2_place 83 = .ok (.iconst 0, 1) := by decide +kernel
theorem dX2_place_84 : decode cX2_place 84 = .ok (.ireturn, 1) := by decide +kernel
theorem dX2_place_85 : decode cX2_place 85 = .ok (.iload 5, 2) := by decide +kernel
theorem dX2_place_87 : decode cX2_place 87 = .ok (.ifCond .eq 11, 3) := by decide +kernel
theorem dX2_place_90 : decode cX2_place 90 = .ok (.aload_n 0, 1) := by decide +kernel
theorem dX2_place_91 : decode cX2_place 91 = .ok (.iload_n 2, 1) := by decide +kernel
theorem dX2_place_92 : decode cX2_place 92 = .ok (.invokevirtual 68, 3) := by decide +kernel
theorem dX2_place_95 : decode cX2_place 95 = .ok (.goto 9, 3) := by decide +kernel
theorem dX2_place_98 : decode cX2_place 98 = .ok (.aload_n 0, 1) := by decide +kernel
theorem dX2_place_99 : decode cX2_place 99 = .ok (.getfield 33, 3) := by decide +kernel
theorem dX2_place_102 : decode cX2_place 102 = .ok (.iload_n 2, 1) := by decide +kernel
theorem dX2_place_103 : decode cX2_place 103 = .ok (.iaload, 1) := by decide +kernel
theorem dX2_place_104 : decode cX2_place 104 = .ok (.istore 7, 2) := by decide +kernel
theorem dX2_place_106 : decode cX2_place 106 = .ok (.aload_n 0, 1) := by decide +kernel
theorem dX2_place_107 : decode cX2_place 107 = .ok (.iload_n 1, 1) := by decide +kernel
theorem dX2_place_108 : decode cX2_place 108 = .ok (.iload_n 2, 1) := by decide +kernel
theorem dX2_place_109 : decode cX2_place 109 = .ok (.iload 7, 2) := by decide +kernel
theorem dX2_place_111 : decode cX2_place 111 = .ok (.invokevirtual 71, 3) := by decide +kernel
theorem dX2_place_114 : decode cX2_place 114 = .ok (.aload_n 0, 1) := by decide +kernel
theorem dX2_place_115 : decode cX2_place 115 = .ok (.getfield 24, 3) := by decide +kernel
theorem dX2_place_118 : decode cX2_place 118 = .ok (.iload_n 1, 1) := by decide +kernel
theorem dX2_place_119 : decode cX2_place 119 = .ok (.iload_n 3, 1) := by decide +kernel
theorem dX2_place_120 : decode cX2_place 120 = .ok (.iastore, 1) := by decide +kernel
theorem dX2_place_121 : decode cX2_place 121 = .ok (.iconst 1, 1) := by decide +kernel
theorem dX2_place_122 : decode cX2_place 122 = .ok (.ireturn, 1) := by decide +kernel
theorem dX2_grant_0 : decode cX2_grant 0 = .ok (.aload_n 0, 1) := by decide +kernel
theorem dX2_grant_1 : decode cX2_grant 1 = .ok (.getfield 27, 3) := by decide +kernel
theorem dX2_grant_4 : decode cX2_grant 4 = .ok (.iload_n 1, 1) := by decide +kernel
theorem dX2_grant_5 : decode cX2_grant 5 = .ok (.bipush 10, 2) := by decide +kernel
theorem dX2_grant_7 : decode cX2_grant 7 = .ok (.imul, 1) := by decide +kernel
theorem dX2_grant_8 : decode cX2_grant 8 = .ok (.iload_n 2, 1) := by decide +kernel
theorem dX2_grant_9 : decode cX2_grant 9 = .ok (.iadd, 1) := by decide +kernel
theorem dX2_grant_10 : decode cX2_grant 10 = .ok (.iload_n 3, 1) := by decide +kernel
theorem dX2_grant_11 : decode cX2_grant 11 = .ok (.iastore, 1) := by decide +kernel
theorem dX2_grant_12 : decode cX2_grant 12 = .ok (.aload_n 0, 1) := by decide +kernel
theorem dX2_grant_13 : decode cX2_grant 13 = .ok (.getfield 15, 3) := by decide +kernel
theorem dX2_grant_16 : decode cX2_grant 16 = .ok (.iload_n 1, 1) := by decide +kernel
theorem dX2_grant_17 : decode cX2_grant 17 = .ok (.dup2, 1) := by decide +kernel
theorem dX2_grant_18 : decode cX2_grant 18 = .ok (.iaload, 1) := by decide +kernel
theorem dX2_grant_19 : decode cX2_grant 19 = .ok (.iconst 1, 1) := by decide +kernel
theorem dX2_grant_20 : decode cX2_grant 20 = .ok (.iadd, 1) := by decide +kernel
theorem dX2_grant_21 : decode cX2_grant 21 = .ok (.iastore, 1) := by decide +kernel
theorem dX2_grant_22 : decode cX2_grant 22 = .ok (.return_, 1) := by decide +kernel
theorem dX2_countUpgrades_0 : decode cX2_countUpgrades 0 = .ok (.iconst 0, 1) := by decide +kernel
theorem dX2_countUpgrades_1 : decode cX2_countUpgrades 1 = .ok (.istore_n 2, 1) := by decide +kernel
theorem dX2_countUpgrades_2 : decode cX2_countUpgrades 2 = .ok (.iconst 0, 1) := by decide +kernel
theorem dX2_countUpgrades_3 : decode cX2_countUpgrades 3 = .ok (.istore_n 3, 1) := by decide +kernel
theorem dX2_countUpgrades_4 : decode cX2_countUpgrades 4 = .ok (.iload_n 3, 1) := by decide +kernel
theorem dX2_countUpgrades_5 : decode cX2_countUpgrades 5 = .ok (.aload_n 0, 1) := by decide +kernel
theorem dX2_countUpgrades_6 : decode cX2_countUpgrades 6 = .ok (.getfield 33, 3) := by decide +kernel
theorem dX2_countUpgrades_9 : decode cX2_countUpgrades 9 = .ok (.iload_n 1, 1) := by decide +kernel
theorem dX2_countUpgrades_10 : decode cX2_countUpgrades 10 = .ok (.iaload, 1) := by decide +kernel
theorem dX2_countUpgrades_11 : decode cX2_countUpgrades 11 = .ok (.if_icmp .ge 41, 3) := by decide +kernel
theorem dX2_countUpgrades_14 : decode cX2_countUpgrades 14 = .ok (.aload_n 0, 1) := by decide +kernel
theorem dX2_countUpgrades_15 : decode cX2_countUpgrades 15 = .ok (.getfield 30, 3) := by decide +kernel
theorem dX2_countUpgrades_18 : decode cX2_countUpgrades 18 = .ok (.iload_n 1, 1) := by decide +kernel
theorem dX2_countUpgrades_19 : decode cX2_countUpgrades 19 = .ok (.bipush 8, 2) := by decide +kernel
theorem dX2_countUpgrades_21 : decode cX2_countUpgrades 21 = .ok (.imul, 1) := by decide +kernel
theorem dX2_countUpgrades_22 : decode cX2_countUpgrades 22 = .ok (.iload_n 3, 1) := by decide +kernel
theorem dX2_countUpgrades_23 : decode cX2_countUpgrades 23 = .ok (.iadd, 1) := by decide +kernel
theorem dX2_countUpgrades_24 : decode cX2_countUpgrades 24 = .ok (.iaload, 1) := by decide +kernel
theorem dX2_countUpgrades_25 : decode cX2_countUpgrades 25 = .ok (.istore 4, 2) := by decide +kernel
theorem dX2_countUpgrades_27 : decode cX2_countUpgrades 27 = .ok (.aload_n 0, 1) := by decide +kernel
theorem dX2_countUpgrades_28 : decode cX2_countUpgrades 28 = .ok (.getfield 27, 3) := by decide +kernel
theorem dX2_countUpgrades_31 : decode cX2_countUpgrades 31 = .ok (.iload 4, 2) := by decide +kernel
theorem dX2_countUpgrades_33 : decode cX2_countUpgrades 33 = .ok (.bipush 10, 2) := by decide +kernel
theorem dX2_countUpgrades_35 : decode cX2_countUpgrades 35 = .ok (.imul, 1) := by decide +kernel
theorem dX2_countUpgrades_36 : decode cX2_countUpgrades 36 = .ok (.iload_n 1, 1) := by decide +kernel
theorem dX2_countUpgrades_37 : decode cX2_countUpgrades 37 = .ok (.iadd, 1) := by decide +kernel
theorem dX2_countUpgrades_38 : decode cX2_countUpgrades 38 = .ok (.iaload, 1) := by decide +kernel
theorem dX2_countUpgrades_39 : decode cX2_countUpgrades 39 = .ok (.iconst 1, 1) := by decide +kernel
theorem dX2_countUpgrades_40 : decode cX2_countUpgrades 40 = .ok (.if_icmp .ne 6, 3) := by decide +kernel
theorem dX2_countUpgrades_43 : decode cX2_countUpgrades 43 = .ok (.iinc 2 1, 3) := by decide +kernel
theorem dX2_countUpgrades_46 : decode cX2_countUpgrades 46 = .ok (.iinc 3 1, 3) := by decide +kernel
theorem dX2_countUpgrades_49 : decode cX2_countUpgrades 49 = .ok (.goto (-45), 3) := by decide +kernel
theorem dX2_countUpgrades_52 : decode cX2_countUpgrades 52 = .ok (.iload_n 2, 1) := by decide +kernel
theorem dX2_countUpgrades_53 : decode cX2_countUpgrades 53 = .ok (.ireturn, 1) := by decide +kernel
theorem dX2_insertRequest_0 : decode cX2_insertRequest 0 = .ok (.iload_n 2, 1) := by decide +kernel
theorem dX2_insertRequest_1 : decode cX2_insertRequest 1 = .ok (.bipush 8, 2) := by decide +kernel
theorem dX2_insertRequest_3 : decode cX2_insertRequest 3 = .ok (.imul, 1) := by decide +kernel
theorem dX2_insertRequest_4 : decode cX2_insertRequest 4 = .ok (.istore 4, 2) := by decide +kernel
theorem dX2_insertRequest_6 : decode cX2_insertRequest 6 = .ok (.aload_n 0, 1) := by decide +kernel
theorem dX2_insertRequest_7 : decode cX2_insertRequest 7 = .ok (.getfield 33, 3) := by decide +kernel
theorem dX2_insertRequest_10 : decode cX2_insertRequest 10 = .ok (.iload_n 2, 1) := by decide +kernel
theorem dX2_insertRequest_11 : decode cX2_insertRequest 11 = .ok (.iaload, 1) := by decide +kernel
theorem dX2_insertRequest_12 : decode cX2_insertRequest 12 = .ok (.istore 5, 2) := by decide +kernel
theorem dX2_insertRequest_14 : decode cX2_insertRequest 14 = .ok (.iload 5, 2) := by decide +kernel
theorem dX2_insertRequest_16 : decode cX2_insertRequest 16 = .ok (.iload_n 3, 1) := by decide +kernel
theorem dX2_insertRequest_17 : decode cX2_insertRequest 17 = .ok (.if_icmp .le 31, 3) := by decide +kernel
theorem dX2_insertRequest_20 : decode cX2_insertRequest 20 = .ok (.aload_n 0, 1) := by decide +kernel
theorem dX2_insertRequest_21 : decode cX2_insertRequest 21 = .ok (.getfield 30, 3) := by decide +kernel
theorem dX2_insertRequest_24 : decode cX2_insertRequest 24 = .ok (.iload 4, 2) := by decide +kernel
theorem dX2_insertRequest_26 : decode cX2_insertRequest 26 = .ok (.iload 5, 2) := by decide +kernel
theorem dX2_insertRequest_28 : decode cX2_insertRequest 28 = .ok (.iadd, 1) := by decide +kernel
theorem dX2_insertRequest_29 : decode cX2_insertRequest 29 = .ok (.aload_n 0, 1) := by decide +kernel
theorem dX2_insertRequest_30 : decode cX2_insertRequest 30 = .ok (.getfield 30, 3) := by decide +kernel
theorem dX2_insertRequest_33 : decode cX2_insertRequest 33 = .ok (.iload 4, 2) := by decide +kernel
theorem dX2_insertRequest_35 : decode cX2_insertRequest 35 = .ok (.iload 5, 2) := by decide +kernel
theorem dX2_insertRequest_37 : decode cX2_insertRequest 37 = .ok (.iadd, 1) := by decide +kernel
theorem dX2_insertRequest_38 : decode cX2_insertRequest 38 = .ok (.iconst 1, 1) := by decide +kernel
theorem dX2_insertRequest_39 : decode cX2_insertRequest 39 = .ok (.isub, 1) := by decide +kernel
theorem dX2_insertRequest_40 : decode cX2_insertRequest 40 = .ok (.iaload, 1) := by decide +kernel
theorem dX2_insertRequest_41 : decode cX2_insertRequest 41 = .ok (.iastore, 1) := by decide +kernel
theorem dX2_insertRequest_42 : decode cX2_insertRequest 42 = .ok (.iinc 5 (-1), 3) := by decide +kernel
theorem dX2_insertRequest_45 : decode cX2_insertRequest 45 = .ok (.goto (-31), 3) := by decide +kernel
theorem dX2_insertRequest_48 : decode cX2_insertRequest 48 = .ok (.aload_n 0, 1) := by decide +kernel
theorem dX2_insertRequest_49 : decode cX2_insertRequest 49 = .ok (.getfield 30, 3) := by decide +kernel
theorem dX2_insertRequest_52 : decode cX2_insertRequest 52 = .ok (.iload 4, 2) := by decide +kernel
theorem dX2_insertRequest_54 : decode cX2_insertRequest 54 = .ok (.iload_n 3, 1) := by decide +kernel
theorem dX2_insertRequest_55 : decode cX2_insertRequest 55 = .ok (.iadd, 1) := by decide +kernel
theorem dX2_insertRequest_56 : decode cX2_insertRequest 56 = .ok (.iload_n 1, 1) := by decide +kernel
theorem dX2_insertRequest_57 : decode cX2_insertRequest 57 = .ok (.iastore, 1) := by decide +kernel
theorem dX2_insertRequest_58 : decode cX2_insertRequest 58 = .ok (.aload_n 0, 1) := by decide +kernel
theorem dX2_insertRequest_59 : decode cX2_insertRequest 59 = .ok (.getfield 33, 3) := by decide +kernel
theorem dX2_insertRequest_62 : decode cX2_insertRequest 62 = .ok (.iload_n 2, 1) := by decide +kernel
theorem dX2_insertRequest_63 : decode cX2_insertRequest 63 = .ok (.dup2, 1) := by decide +kernel
theorem dX2_insertRequest_64 : decode cX2_insertRequest 64 = .ok (.iaload, 1) := by decide +kernel
theorem dX2_insertRequest_65 : decode cX2_insertRequest 65 = .ok (.iconst 1, 1) := by decide +kernel
theorem dX2_insertRequest_66 : decode cX2_insertRequest 66 = .ok (.iadd, 1) := by decide +kernel
theorem dX2_insertRequest_67 : decode cX2_insertRequest 67 = .ok (.iastore, 1) := by decide +kernel
theorem dX2_insertRequest_68 : decode cX2_insertRequest 68 = .ok (.aload_n 0, 1) := by decide +kernel
theorem dX2_insertRequest_69 : decode cX2_insertRequest 69 = .ok (.getfield 21, 3) := by decide +kernel
theorem dX2_insertRequest_72 : decode cX2_insertRequest 72 = .ok (.iload_n 1, 1) := by decide +kernel
theorem dX2_insertRequest_73 : decode cX2_insertRequest 73 = .ok (.iload_n 2, 1) := by decide +kernel
theorem dX2_insertRequest_74 : decode cX2_insertRequest 74 = .ok (.iastore, 1) := by decide +kernel
theorem dX2_insertRequest_75 : decode cX2_insertRequest 75 = .ok (.return_, 1) := by decide +kernel
theorem dX2_removeRequest_0 : decode cX2_removeRequest 0 = .ok (.aload_n 0, 1) := by decide +kernel
theorem dX2_removeRequest_1 : decode cX2_removeRequest 1 = .ok (.getfield 21, 3) := by decide +kernel
theorem dX2_removeRequest_4 : decode cX2_removeRequest 4 = .ok (.iload_n 1, 1) := by decide +kernel
theorem dX2_removeRequest_5 : decode cX2_removeRequest 5 = .ok (.iaload, 1) := by decide +kernel
theorem dX2_removeRequest_6 : decode cX2_removeRequest 6 = .ok (.istore_n 2, 1) := by decide +kernel
theorem dX2_removeRequest_7 : decode cX2_removeRequest 7 = .ok (.iload_n 2, 1) := by decide +kernel
theorem dX2_removeRequest_8 : decode cX2_removeRequest 8 = .ok (.iconst (-1), 1) := by decide +kernel
theorem dX2_removeRequest_9 : decode cX2_removeRequest 9 = .ok (.if_icmp .ne 4, 3) := by decide +kernel
theorem dX2_removeRequest_12 : decode cX2_removeRequest 12 = .ok (.return_, 1) := by decide +kernel
theorem dX2_removeRequest_13 : decode cX2_removeRequest 13 = .ok (.iload_n 2, 1) := by decide +kernel
theorem dX2_removeRequest_14 : decode cX2_removeRequest 14 = .ok (.bipush 8, 2) := by decide +kernel
theorem dX2_removeRequest_16 : decode cX2_removeRequest 16 = .ok (.imul, 1) := by decide +kernel
theorem dX2_removeRequest_17 : decode cX2_removeRequest 17 = .ok (.istore_n 3, 1) := by decide +kernel
theorem dX2_removeRequest_18 : decode cX2_removeRequest 18 = .ok (.iconst 0, 1) := by decide +kernel
theorem dX2_removeRequest_19 : decode cX2_removeRequest 19 = .ok (.istore 4, 2) := by decide +kernel
theorem dX2_removeRequest_21 : decode cX2_removeRequest 21 = .ok (.iconst 0, 1) := by decide +kernel
theorem dX2_removeRequest_22 : decode cX2_removeRequest 22 = .ok (.istore 5, 2) := by decide +kernel
theorem dX2_removeRequest_24 : decode cX2_removeRequest 24 = .ok (.iload 5, 2) := by decide +kernel
theorem dX2_removeRequest_26 : decode cX2_removeRequest 26 = .ok (.aload_n 0, 1) := by decide +kernel
theorem dX2_removeRequest_27 : decode cX2_removeRequest 27 = .ok (.getfield 33, 3) := by decide +kernel
theorem dX2_removeRequest_30 : decode cX2_removeRequest 30 = .ok (.iload_n 2, 1) := by decide +kernel
theorem dX2_removeRequest_31 : decode cX2_removeRequest 31 = .ok (.iaload, 1) := by decide +kernel
theorem dX2_removeRequest_32 : decode cX2_removeRequest 32 = .ok (.if_icmp .ge 40, 3) := by decide +kernel
theorem dX2_removeRequest_35 : decode cX2_removeRequest 35 = .ok (.aload_n 0, 1) := by decide +kernel
theorem dX2_removeRequest_36 : decode cX2_removeRequest 36 = .ok (.getfield 30, 3) := by decide +kernel
theorem dX2_removeRequest_39 : decode cX2_removeRequest 39 = .ok (.iload_n 3, 1) := by decide +kernel
theorem dX2_removeRequest_40 : decode cX2_removeRequest 40 = .ok (.iload 5, 2) := by decide +kernel
theorem dX2_removeRequest_42 : decode cX2_removeRequest 42 = .ok (.iadd, 1) := by decide +kernel
theorem dX2_removeRequest_43 : decode cX2_removeRequest 43 = .ok (.iaload, 1) := by decide +kernel
theorem dX2_removeRequest_44 : decode cX2_removeRequest 44 = .ok (.istore 6, 2) := by decide +kernel
theorem dX2_removeRequest_46 : decode cX2_removeRequest 46 = .ok (.iload 6, 2) := by decide +kernel
theorem dX2_removeRequest_48 : decode cX2_removeRequest 48 = .ok (.iload_n 1, 1) := by decide +kernel
theorem dX2_removeRequest_49 : decode cX2_removeRequest 49 = .ok (.if_icmp .eq 17, 3) := by decide +kernel
theorem dX2_removeRequest_52 : decode cX2_removeRequest 52 = .ok (.aload_n 0, 1) := by decide +kernel
theorem dX2_removeRequest_53 : decode cX2_removeRequest 53 = .ok (.getfield 30, 3) := by decide +kernel
theorem dX2_removeRequest_56 : decode cX2_removeRequest 56 = .ok (.iload_n 3, 1) := by decide +kernel
theorem dX2_removeRequest_57 : decode cX2_removeRequest 57 = .ok (.iload 4, 2) := by decide +kernel
theorem dX2_removeRequest_59 : decode cX2_removeRequest 59 = .ok (.iadd, 1) := by decide +kernel
theorem dX2_removeRequest_60 : decode cX2_removeRequest 60 = .ok (.iload 6, 2) := by decide +kernel
theorem dX2_removeRequest_62 : decode cX2_removeRequest 62 = .ok (.iastore, 1) := by decide +kernel
theorem dX2_removeRequest_63 : decode cX2_removeRequest 63 = .ok (.iinc 4 1, 3) := by decide +kernel
theorem dX2_removeRequest_66 : decode cX2_removeRequest 66 = .ok (.iinc 5 1, 3) := by decide +kernel
theorem dX2_removeRequest_69 : decode cX2_removeRequest 69 = .ok (.goto (-45), 3) := by decide +kernel
theorem dX2_removeRequest_72 : decode cX2_removeRequest 72 = .ok (.aload_n 0, 1) := by decide +kernel
theorem dX2_removeRequest_73 : decode cX2_removeRequest 73 = .ok (.getfield 33, 3) := by decide +kernel
theorem dX2_removeRequest_76 : decode cX2_removeRequest 76 = .ok (.iload_n 2, 1) := by decide +kernel
theorem dX2_removeRequest_77 : decode cX2_removeRequest 77 = .ok (.iload 4, 2) := by decide +kernel
theorem dX2_removeRequest_79 : decode cX2_removeRequest 79 = .ok (.iastore, 1) := by decide +kernel
theorem dX2_removeRequest_80 : decode cX2_removeRequest 80 = .ok (.aload_n 0, 1) := by decide +kernel
theorem dX2_removeRequest_81 : decode cX2_removeRequest 81 = .ok (.getfield 21, 3) := by decide +kernel
theorem dX2_removeRequest_84 : decode cX2_removeRequest 84 = .ok (.iload_n 1, 1) := by decide +kernel
theorem dX2_removeRequest_85 : decode cX2_removeRequest 85 = .ok (.iconst (-1), 1) := by decide +kernel
theorem dX2_removeRequest_86 : decode cX2_removeRequest 86 = .ok (.iastore, 1) := by decide +kernel
theorem dX2_removeRequest_87 : decode cX2_removeRequest 87 = .ok (.return_, 1) := by decide +kernel
theorem dX2_releaseLocks_0 : decode cX2_releaseLocks 0 = .ok (.iconst 0, 1) := by decide +kernel
theorem dX2_releaseLocks_1 : decode cX2_releaseLocks 1 = .ok (.istore_n 2, 1) := by decide +kernel
theorem dX2_releaseLocks_2 : decode cX2_releaseLocks 2 = .ok (.iload_n 2, 1) := by decide +kernel
theorem dX2_releaseLocks_3 : decode cX2_releaseLocks 3 = .ok (.bipush 10, 2) := by decide +kernel
theorem dX2_releaseLocks_5 : decode cX2_releaseLocks 5 = .ok (.if_icmp .ge 21, 3) := by decide +kernel
theorem dX2_releaseLocks_8 : decode cX2_releaseLocks 8 = .ok (.aload_n 0, 1) := by decide +kernel
theorem dX2_releaseLocks_9 : decode cX2_releaseLocks 9 = .ok (.getfield 27, 3) := by decide +kernel
theorem dX2_releaseLocks_12 : decode cX2_releaseLocks 12 = .ok (.iload_n 1, 1) := by decide +kernel
theorem dX2_releaseLocks_13 : decode cX2_releaseLocks 13 = .ok (.bipush 10, 2) := by decide +kernel
theorem dX2_releaseLocks_15 : decode cX2_releaseLocks 15 = .ok (.imul, 1) := by decide +kernel
theorem dX2_releaseLocks_16 : decode cX2_releaseLocks 16 = .ok (.iload_n 2, 1) := by decide +kernel
theorem dX2_releaseLocks_17 : decode cX2_releaseLocks 17 = .ok (.iadd, 1) := by decide +kernel
theorem dX2_releaseLocks_18 : decode cX2_releaseLocks 18 = .ok (.iconst 0, 1) := by decide +kernel
theorem dX2_releaseLocks_19 : decode cX2_releaseLocks 19 = .ok (.iastore, 1) := by decide +kernel
theorem dX2_releaseLocks_20 : decode cX2_releaseLocks 20 = .ok (.iinc 2 1, 3) := by decide +kernel
theorem dX2_releaseLocks_23 : decode cX2_releaseLocks 23 = .ok (.goto (-21), 3) := by decide +kernel
theorem dX2_releaseLocks_26 : decode cX2_releaseLocks 26 = .ok (.return_, 1) := by decide +kernel
theorem dX2_serveQueues_0 : decode cX2_serveQueues 0 = .ok (.iconst 0, 1) := by decide +kernel
theorem dX2_serveQueues_1 : decode cX2_serveQueues 1 = .ok (.istore_n 1, 1) := by decide +kernel
theorem dX2_serveQueues_2 : decode cX2_serveQueues 2 = .ok (.iconst 0, 1) := by decide +kernel
theorem dX2_serveQueues_3 : decode cX2_serveQueues 3 = .ok (.istore_n 2, 1) := by decide +kernel
theorem dX2_serveQueues_4 : decode cX2_serveQueues 4 = .ok (.iload_n 2, 1) := by decide +kernel
theorem dX2_serveQueues_5 : decode cX2_serveQueues 5 = .ok (.bipush 10, 2) := by decide +kernel
theorem dX2_serveQueues_7 : decode cX2_serveQueues 7 = .ok (.if_icmp .ge 34, 3) := by decide +kernel
theorem dX2_serveQueues_10 : decode cX2_serveQueues 10 = .ok (.iconst 0, 1) := by decide +kernel
theorem dX2_serveQueues_11 : decode cX2_serveQueues 11 = .ok (.istore_n 3, 1) := by decide +kernel
theorem dX2_serveQueues_12 : decode cX2_serveQueues 12 = .ok (.iload_n 3, 1) := by decide +kernel
theorem dX2_serveQueues_13 : decode cX2_serveQueues 13 = .ok (.bipush 8, 2) := by decide +kernel
theorem dX2_serveQueues_15 : decode cX2_serveQueues 15 = .ok (.if_icmp .ge 20, 3) := by decide +kernel
theorem dX2_serveQueues_18 : decode cX2_serveQueues 18 = .ok (.aload_n 0, 1) := by decide +kernel
theorem dX2_serveQueues_19 : decode cX2_serveQueues 19 = .ok (.iload_n 2, 1) := by decide +kernel
theorem dX2_serveQueues_20 : decode cX2_serveQueues 20 = .ok (.invokevirtual 74, 3) := by decide +kernel
theorem dX2_serveQueues_23 : decode cX2_serveQueues 23 = .ok (.ifCond .eq 12, 3) := by decide +kernel
theorem dX2_serveQueues_26 : decode cX2_serveQueues 26 = .ok (.iinc 1 1, 3) := by decide +kernel
theorem dX2_serveQueues_29 : decode cX2_serveQueues 29 = .ok (.iinc 3 1, 3) := by decide +kernel
theorem dX2_serveQueues_32 : decode cX2_serveQueues 32 = .ok (.goto (-20), 3) := by decide +kernel
theorem dX2_serveQueues_35 : decode cX2_serveQueues 35 = .ok (.iinc 2 1, 3) := by decide +kernel
theorem dX2_serveQueues_38 : decode cX2_serveQueues 38 = .ok (.goto (-34), 3) := by decide +kernel
theorem dX2_serveQueues_41 : decode cX2_serveQueues 41 = .ok (.iload_n 1, 1) := by decide +kernel
theorem dX2_serveQueues_42 : decode cX2_serveQueues 42 = .ok (.ireturn, 1) := by decide +kernel
theorem dX2_serveFirst_0 : decode cX2_serveFirst 0 = .ok (.aload_n 0, 1) := by decide +kernel
theorem dX2_serveFirst_1 : decode cX2_serveFirst 1 = .ok (.getfield 33, 3) := by decide +kernel
theorem dX2_serveFirst_4 : decode cX2_serveFirst 4 = .ok (.iload_n 1, 1) := by decide +kernel
theorem dX2_serveFirst_5 : decode cX2_serveFirst 5 = .ok (.iaload, 1) := by decide +kernel
theorem dX2_serveFirst_6 : decode cX2_serveFirst 6 = .ok (.ifCond .ne 5, 3) := by decide +kernel
theorem dX2_serveFirst_9 : decode cX2_serveFirst 9 = .ok (.iconst 0, 1) := by decide +kernel
theorem dX2_serveFirst_10 : decode cX2_serveFirst 10 = .ok (.ireturn, 1) := by decide +kernel
theorem dX2_serveFirst_11 : decode cX2_serveFirst 11 = .ok (.aload_n 0, 1) := by decide +kernel
theorem dX2_serveFirst_12 : decode cX2_serveFirst 12 = .ok (.getfield 30, 3) := by decide +kernel
theorem dX2_serveFirst_15 : decode cX2_serveFirst 15 = .ok (.iload_n 1, 1) := by decide +kernel
theorem dX2_serveFirst_16 : decode cX2_serveFirst 16 = .ok (.bipush 8, 2) := by decide +kernel
theorem dX2_serveFirst_18 : decode cX2_serveFirst 18 = .ok (.imul, 1) := by decide +kernel
theorem dX2_serveFirst_19 : decode cX2_serveFirst 19 = .ok (.iaload, 1) := by decide +kernel
theorem dX2_serveFirst_20 : decode cX2_serveFirst 20 = .ok (.istore_n 2, 1) := by decide +kernel
theorem dX2_serveFirst_21 : decode cX2_serveFirst 21 = .ok (.aload_n 0, 1) := by decide +kernel
theorem dX2_serveFirst_22 : decode cX2_serveFirst 22 = .ok (.getfield 24, 3) := by decide +kernel
theorem dX2_serveFirst_25 : decode cX2_serveFirst 25 = .ok (.iload_n 2, 1) := by decide +kernel
theorem dX2_serveFirst_26 : decode cX2_serveFirst 26 = .ok (.iaload, 1) := by decide +kernel
theorem dX2_serveFirst_27 : decode cX2_serveFirst 27 = .ok (.istore_n 3, 1) := by decide +kernel
theorem dX2_serveFirst_28 : decode cX2_serveFirst 28 = .ok (.aload_n 0, 1) := by decide +kernel
theorem dX2_serveFirst_29 : decode cX2_serveFirst 29 = .ok (.iload_n 2, 1) := by decide +kernel
theorem dX2_serveFirst_30 : decode cX2_serveFirst 30 = .ok (.iload_n 1, 1) := by decide +kernel
theorem dX2_serveFirst_31 : decode cX2_serveFirst 31 = .ok (.iload_n 3, 1) := by decide +kernel
theorem dX2_serveFirst_32 : decode cX2_serveFirst 32 = .ok (.invokevirtual 52, 3) := by decide +kernel
theorem dX2_serveFirst_35 : decode cX2_serveFirst 35 = .ok (.ifCond .eq 5, 3) := by decide +kernel
theorem dX2_serveFirst_38 : decode cX2_serveFirst 38 = .ok (.iconst 0, 1) := by decide +kernel
theorem dX2_serveFirst_39 : decode cX2_serveFirst 39 = .ok (.ireturn, 1) := by decide +kernel
theorem dX2_serveFirst_40 : decode cX2_serveFirst 40 = .ok (.aload_n 0, 1) := by decide +kernel
theorem dX2_serveFirst_41 : decode cX2_serveFirst 41 = .ok (.iload_n 2, 1) := by decide +kernel
theorem dX2_serveFirst_42 : decode cX2_serveFirst 42 = .ok (.invokevirtual 78, 3) := by decide +kernel
theorem dX2_serveFirst_45 : decode cX2_serveFirst 45 = .ok (.aload_n 0, 1) := by decide +kernel
theorem dX2_serveFirst_46 : decode cX2_serveFirst 46 = .ok (.iload_n 2, 1) := by decide +kernel
theorem dX2_serveFirst_47 : decode cX2_serveFirst 47 = .ok (.iload_n 1, 1) := by decide +kernel
theorem dX2_serveFirst_48 : decode cX2_serveFirst 48 = .ok (.iload_n 3, 1) := by decide +kernel
theorem dX2_serveFirst_49 : decode cX2_serveFirst 49 = .ok (.invokevirtual 64, 3) := by decide +kernel
theorem dX2_serveFirst_52 : decode cX2_serveFirst 52 = .ok (.iconst 1, 1) := by decide +kernel
theorem dX2_serveFirst_53 : decode cX2_serveFirst 53 = .ok (.ireturn, 1) := by decide +kernel
theorem dX2_takeBack_0 : decode cX2_takeBack 0 = .ok (.aload_n 0, 1) := by decide +kernel
theorem dX2_takeBack_1 : decode cX2_takeBack 1 = .ok (.iload_n 1, 1) := by decide +kernel
theorem dX2_takeBack_2 : decode cX2_takeBack 2 = .ok (.invokevirtual 78, 3) := by decide +kernel
theorem dX2_takeBack_5 : decode cX2_takeBack 5 = .ok (.aload_n 0, 1) := by decide +kernel
theorem dX2_takeBack_6 : decode cX2_takeBack 6 = .ok (.invokevirtual 82, 3) := by decide +kernel
theorem dX2_takeBack_9 : decode cX2_takeBack 9 = .ok (.ireturn, 1) := by decide +kernel
theorem dX2_end_0 : decode cX2_end 0 = .ok (.aload_n 0, 1) := by decide +kernel
theorem dX2_end_1 : decode cX2_end 1 = .ok (.iload_n 1, 1) := by decide +kernel
theorem dX2_end_2 : decode cX2_end 2 = .ok (.invokevirtual 78, 3) := by decide +kernel
theorem dX2_end_5 : decode cX2_end 5 = .ok (.aload_n 0, 1) := by decide +kernel
theorem dX2_end_6 : decode cX2_end 6 = .ok (.iload_n 1, 1) := by decide +kernel
theorem dX2_end_7 : decode cX2_end 7 = .ok (.invokevirtual 86, 3) := by decide +kernel
theorem dX2_end_10 : decode cX2_end 10 = .ok (.aload_n 0, 1) := by decide +kernel
theorem dX2_end_11 : decode cX2_end 11 = .ok (.getfield 9, 3) := by decide +kernel
theorem dX2_end_14 : decode cX2_end 14 = .ok (.iload_n 1, 1) := by decide +kernel
theorem dX2_end_15 : decode cX2_end 15 = .ok (.iconst (-1), 1) := by decide +kernel
theorem dX2_end_16 : decode cX2_end 16 = .ok (.iastore, 1) := by decide +kernel
theorem dX2_end_17 : decode cX2_end 17 = .ok (.aload_n 0, 1) := by decide +kernel
theorem dX2_end_18 : decode cX2_end 18 = .ok (.getfield 15, 3) := by decide +kernel
theorem dX2_end_21 : decode cX2_end 21 = .ok (.iload_n 1, 1) := by decide +kernel
theorem dX2_end_22 : decode cX2_end 22 = .ok (.iconst (-1), 1) := by decide +kernel
theorem dX2_end_23 : decode cX2_end 23 = .ok (.iastore, 1) := by decide +kernel
theorem dX2_end_24 : decode cX2_end 24 = .ok (.aload_n 0, 1) := by decide +kernel
theorem dX2_end_25 : decode cX2_end 25 = .ok (.getfield 18, 3) := by decide +kernel
theorem dX2_end_28 : decode cX2_end 28 = .ok (.iload_n 1, 1) := by decide +kernel
theorem dX2_end_29 : decode cX2_end 29 = .ok (.iconst (-1), 1) := by decide +kernel
theorem dX2_end_30 : decode cX2_end 30 = .ok (.iastore, 1) := by decide +kernel
theorem dX2_end_31 : decode cX2_end 31 = .ok (.aload_n 0, 1) := by decide +kernel
theorem dX2_end_32 : decode cX2_end 32 = .ok (.invokevirtual 82, 3) := by decide +kernel
theorem dX2_end_35 : decode cX2_end 35 = .ok (.ireturn, 1) := by decide +kernel
theorem dX2_abort_0 : decode cX2_abort 0 = .ok (.aload_n 0, 1) := by decide +kernel
theorem dX2_abort_1 : decode cX2_abort 1 = .ok (.iload_n 1, 1) := by decide +kernel
theorem dX2_abort_2 : decode cX2_abort 2 = .ok (.invokevirtual 78, 3) := by decide +kernel
theorem dX2_abort_5 : decode cX2_abort 5 = .ok (.aload_n 0, 1) := by decide +kernel
theorem dX2_abort_6 : decode cX2_abort 6 = .ok (.iload_n 1, 1) := by decide +kernel
theorem dX2_abort_7 : decode cX2_abort 7 = .ok (.invokevirtual 86, 3) := by decide +kernel
theorem dX2_abort_10 : decode cX2_abort 10 = .ok (.aload_n 0, 1) := by decide +kernel
theorem dX2_abort_11 : decode cX2_abort 11 = .ok (.dup, 1) := by decide +kernel
theorem dX2_abort_12 : decode cX2_abort 12 = .ok (.getfield 46, 3) := by decide +kernel
theorem dX2_abort_15 : decode cX2_abort 15 = .ok (.iconst 1, 1) := by decide +kernel
theorem dX2_abort_16 : decode cX2_abort 16 = .ok (.iadd, 1) := by decide +kernel
theorem dX2_abort_17 : decode cX2_abort 17 = .ok (.putfield 46, 3) := by decide +kernel
theorem dX2_abort_20 : decode cX2_abort 20 = .ok (.aload_n 0, 1) := by decide +kernel
theorem dX2_abort_21 : decode cX2_abort 21 = .ok (.dup, 1) := by decide +kernel
theorem dX2_abort_22 : decode cX2_abort 22 = .ok (.getfield 49, 3) := by decide +kernel
theorem dX2_abort_25 : decode cX2_abort 25 = .ok (.aload_n 0, 1) := by decide +kernel
theorem dX2_abort_26 : decode cX2_abort 26 = .ok (.getfield 15, 3) := by decide +kernel
theorem dX2_abort_29 : decode cX2_abort 29 = .ok (.iload_n 1, 1) := by decide +kernel
theorem dX2_abort_30 : decode cX2_abort 30 = .ok (.iaload, 1) := by decide +kernel
theorem dX2_abort_31 : decode cX2_abort 31 = .ok (.iadd, 1) := by decide +kernel
theorem dX2_abort_32 : decode cX2_abort 32 = .ok (.putfield 49, 3) := by decide +kernel
theorem dX2_abort_35 : decode cX2_abort 35 = .ok (.aload_n 0, 1) := by decide +kernel
theorem dX2_abort_36 : decode cX2_abort 36 = .ok (.getfield 15, 3) := by decide +kernel
theorem dX2_abort_39 : decode cX2_abort 39 = .ok (.iload_n 1, 1) := by decide +kernel
theorem dX2_abort_40 : decode cX2_abort 40 = .ok (.iconst 0, 1) := by decide +kernel
theorem dX2_abort_41 : decode cX2_abort 41 = .ok (.iastore, 1) := by decide +kernel
theorem dX2_abort_42 : decode cX2_abort 42 = .ok (.aload_n 0, 1) := by decide +kernel
theorem dX2_abort_43 : decode cX2_abort 43 = .ok (.getfield 18, 3) := by decide +kernel
theorem dX2_abort_46 : decode cX2_abort 46 = .ok (.iload_n 1, 1) := by decide +kernel
theorem dX2_abort_47 : decode cX2_abort 47 = .ok (.dup2, 1) := by decide +kernel
theorem dX2_abort_48 : decode cX2_abort 48 = .ok (.iaload, 1) := by decide +kernel
theorem dX2_abort_49 : decode cX2_abort 49 = .ok (.iconst 1, 1) := by decide +kernel
theorem dX2_abort_50 : decode cX2_abort 50 = .ok (.iadd, 1) := by decide +kernel
theorem dX2_abort_51 : decode cX2_abort 51 = .ok (.iastore, 1) := by decide +kernel
theorem dX2_abort_52 : decode cX2_abort 52 = .ok (.return_, 1) := by decide +kernel
theorem dX3_init_0 : decode cX3_init 0 = .ok (.aload_n 0, 1) := by decide +kernel
theorem dX3_init_1 : decode cX3_init 1 = .ok (.invokespecial 3, 3) := by decide +kernel
theorem dX3_init_4 : decode cX3_init 4 = .ok (.aload_n 0, 1) := by decide +kernel
theorem dX3_init_5 : decode cX3_init 5 = .ok (.bipush 8, 2) := by decide +kernel
theorem dX3_init_7 : decode cX3_init 7 = .ok (.newarray .int, 2) := by decide +kernel
theorem dX3_init_9 : decode cX3_init 9 = .ok (.putfield 9, 3) := by decide +kernel
theorem dX3_init_12 : decode cX3_init 12 = .ok (.aload_n 0, 1) := by decide +kernel
theorem dX3_init_13 : decode cX3_init 13 = .ok (.bipush 8, 2) := by decide +kernel
theorem dX3_init_15 : decode cX3_init 15 = .ok (.newarray .int, 2) := by decide +kernel
theorem dX3_init_17 : decode cX3_init 17 = .ok (.putfield 15, 3) := by decide +kernel
theorem dX3_init_20 : decode cX3_init 20 = .ok (.return_, 1) := by decide +kernel
theorem dX3_breakRings_0 : decode cX3_breakRings 0 = .ok (.iconst 0, 1) := by decide +kernel
theorem dX3_breakRings_1 : decode cX3_breakRings 1 = .ok (.istore_n 3, 1) := by decide +kernel
theorem dX3_breakRings_2 : decode cX3_breakRings 2 = .ok (.iconst 0, 1) := by decide +kernel
theorem dX3_breakRings_3 : decode cX3_breakRings 3 = .ok (.istore 4, 2) := by decide +kernel
theorem dX3_breakRings_5 : decode cX3_breakRings 5 = .ok (.iload 4, 2) := by decide +kernel
theorem dX3_breakRings_7 : decode cX3_breakRings 7 = .ok (.bipush 8, 2) := by decide +kernel
theorem dX3_breakRings_9 : decode cX3_breakRings 9 = .ok (.if_icmp .ge 54, 3) := by decide +kernel
theorem dX3_breakRings_12 : decode cX3_breakRings 12 = .ok (.aload_n 0, 1) := by decide +kernel
theorem dX3_breakRings_13 : decode cX3_breakRings 13 = .ok (.aload_n 1, 1) := by decide +kernel
theorem dX3_breakRings_14 : decode cX3_breakRings 14 = .ok (.iload_n 2, 1) := by decide +kernel
theorem dX3_breakRings_15 : decode cX3_breakRings 15 = .ok (.invokevirtual 18, 3) := by decide +kernel
theorem dX3_breakRings_18 : decode cX3_breakRings 18 = .ok (.aload_n 0, 1) := by decide +kernel
theorem dX3_breakRings_19 : decode cX3_breakRings 19 = .ok (.aload_n 1, 1) := by decide +kernel
theorem dX3_breakRings_20 : decode cX3_breakRings 20 = .ok (.aload_n 0, 1) := by decide +kernel
theorem dX3_breakRings_21 : decode cX3_breakRings 21 = .ok (.iload_n 2, 1) := by decide +kernel
theorem dX3_breakRings_22 : decode cX3_breakRings 22 = .ok (.invokevirtual 22, 3) := by decide +kernel
theorem dX3_breakRings_25 : decode cX3_breakRings 25 = .ok (.invokevirtual 26, 3) := by decide +kernel
theorem dX3_breakRings_28 : decode cX3_breakRings 28 = .ok (.istore 5, 2) := by decide +kernel
theorem dX3_breakRings_30 : decode cX3_breakRings 30 = .ok (.iload 5, 2) := by decide +kernel
theorem dX3_breakRings_32 : decode cX3_breakRings 32 = .ok (.iconst (-1), 1) := by decide +kernel
theorem dX3_breakRings_33 : decode cX3_breakRings 33 = .ok (.if_icmp .ne 6, 3) := by decide +kernel
theorem dX3_breakRings_36 : decode cX3_breakRings 36 = .ok (.goto 27, 3) := by decide +kernel
theorem dX3_breakRings_39 : decode cX3_breakRings 39 = .ok (.aload_n 1, 1) := by decide +kernel
theorem dX3_breakRings_40 : decode cX3_breakRings 40 = .ok (.iload 5, 2) := by decide +kernel
theorem dX3_breakRings_42 : decode cX3_breakRings 42 = .ok (.invokevirtual 30, 3) := by decide +kernel
theorem dX3_breakRings_45 : decode cX3_breakRings 45 = .ok (.aload_n 1, 1) := by decide +kernel
theorem dX3_breakRings_46 : decode cX3_breakRings 46 = .ok (.invokevirtual 36, 3) := by decide +kernel
theorem dX3_breakRings_49 : decode cX3_breakRings 49 = .ok (.pop, 1) := by decide +kernel
theorem dX3_breakRings_50 : decode cX3_breakRings 50 = .ok (.iload_n 3, 1) := by decide +kernel
theorem dX3_breakRings_51 : decode cX3_breakRings 51 = .ok (.iconst 1, 1) := by decide +kernel
theorem dX3_breakRings_52 : decode cX3_breakRings 52 = .ok (.iload 5, 2) := by decide +kernel
theorem dX3_breakRings_54 : decode cX3_breakRings 54 = .ok (.ishl, 1) := by decide +kernel
theorem dX3_breakRings_55 : decode cX3_breakRings 55 = .ok (.ior, 1) := by decide +kernel
theorem dX3_breakRings_56 : decode cX3_breakRings 56 = .ok (.istore_n 3, 1) := by decide +kernel
theorem dX3_breakRings_57 : decode cX3_breakRings 57 = .ok (.iinc 4 1, 3) := by decide +kernel
theorem dX3_breakRings_60 : decode cX3_breakRings 60 = .ok (.goto (-55), 3) := by decide +kernel
theorem dX3_breakRings_63 : decode cX3_breakRings 63 = .ok (.iload_n 3, 1) := by decide +kernel
theorem dX3_breakRings_64 : decode cX3_breakRings 64 = .ok (.ireturn, 1) := by decide +kernel
theorem dX3_measure_0 : decode cX3_measure 0 = .ok (.iconst 0, 1) := by decide +kernel
theorem dX3_measure_1 : decode cX3_measure 1 = .ok (.istore_n 3, 1) := by decide +kernel
theorem dX3_measure_2 : decode cX3_measure 2 = .ok (.iload_n 3, 1) := by decide +kernel
theorem dX3_measure_3 : decode cX3_measure 3 = .ok (.bipush 8, 2) := by decide +kernel
theorem dX3_measure_5 : decode cX3_measure 5 = .ok (.if_icmp .ge 37, 3) := by decide +kernel
theorem dX3_measure_8 : decode cX3_measure 8 = .ok (.aload_n 0, 1) := by decide +kernel
theorem dX3_measure_9 : decode cX3_measure 9 = .ok (.getfield 9, 3) := by decide +kernel
theorem dX3_measure_12 : decode cX3_measure 12 = .ok (.iload_n 3, 1) := by decide +kernel
theorem dX3_measure_13 : decode cX3_measure 13 = .ok (.aload_n 1, 1) := by decide +kernel
theorem dX3_measure_14 : decode cX3_measure 14 = .ok (.iload_n 3, 1) := by decide +kernel
theorem dX3_measure_15 : decode cX3_measure 15 = .ok (.invokevirtual 40, 3) := by decide +kernel
theorem dX3_measure_18 : decode cX3_measure 18 = .ok (.iastore, 1) := by decide +kernel
theorem dX3_measure_19 : decode cX3_measure 19 = .ok (.aload_n 0, 1) := by decide +kernel
theorem dX3_measure_20 : decode cX3_measure 20 = .ok (.getfield 15, 3) := by decide +kernel
theorem dX3_measure_23 : decode cX3_measure 23 = .ok (.iload_n 3, 1) := by decide +kernel
theorem dX3_measure_24 : decode cX3_measure 24 = .ok (.iload_n 3, 1) := by decide +kernel
theorem dX3_measure_25 : decode cX3_measure 25 = .ok (.iload_n 2, 1) := by decide +kernel
theorem dX3_measure_26 : decode cX3_measure 26 = .ok (.if_icmp .ne 7, 3) := by decide +kernel
theorem dX3_measure_29 : decode cX3_measure 29 = .ok (.iconst 0, 1) := by decide +kernel
theorem dX3_measure_30 : decode cX3_measure 30 = .ok (.goto 5, 3) := by decide +kernel
theorem dX3_measure_33 : decode cX3_measure 33 = .ok (.bipush 8, 2) := by decide +kernel
theorem dX3_measure_35 : decode cX3_measure 35 = .ok (.iastore, 1) := by decide +kernel
theorem dX3_measure_36 : decode cX3_measure 36 = .ok (.iinc 3 1, 3) := by decide +kernel
theorem dX3_measure_39 : decode cX3_measure 39 = .ok (.goto (-37), 3) := by decide +kernel
theorem dX3_measure_42 : decode cX3_measure 42 = .ok (.iconst 1, 1) := by decide +kernel
theorem dX3_measure_43 : decode cX3_measure 43 = .ok (.iload_n 2, 1) := by decide +kernel
theorem dX3_measure_44 : decode cX3_measure 44 = .ok (.ishl, 1) := by decide +kernel
theorem dX3_measure_45 : decode cX3_measure 45 = .ok (.istore_n 3, 1) := by decide +kernel
theorem dX3_measure_46 : decode cX3_measure 46 = .ok (.iconst 1, 1) := by decide +kernel
theorem dX3_measure_47 : decode cX3_measure 47 = .ok (.istore 4, 2) := by decide +kernel
theorem dX3_measure_49 : decode cX3_measure 49 = .ok (.iload 4, 2) := by decide +kernel
theorem dX3_measure_51 : decode cX3_measure 51 = .ok (.bipush 8, 2) := by decide +kernel
theorem dX3_measure_53 : decode cX3_measure 53 = .ok (.if_icmp .ge 73, 3) := by decide +kernel
theorem dX3_measure_56 : decode cX3_measure 56 = .ok (.iconst 0, 1) := by decide +kernel
theorem dX3_measure_57 : decode cX3_measure 57 = .ok (.istore 5, 2) := by decide +kernel
theorem dX3_measure_59 : decode cX3_measure 59 = .ok (.iconst 0, 1) := by decide +kernel
theorem dX3_measure_60 : decode cX3_measure 60 = .ok (.istore 6, 2) := by decide +kernel
theorem dX3_measure_62 : decode cX3_measure 62 = .ok (.iload 6, 2) := by decide +kernel
theorem dX3_measure_64 : decode cX3_measure 64 = .ok (.bipush 8, 2) := by decide +kernel
theorem dX3_measure_66 : decode cX3_measure 66 = .ok (.if_icmp .ge 51, 3) := by decide +kernel
theorem dX3_measure_69 : decode cX3_measure 69 = .ok (.aload_n 0, 1) := by decide +kernel
theorem dX3_measure_70 : decode cX3_measure 70 = .ok (.getfield 15, 3) := by decide +kernel
theorem dX3_measure_73 : decode cX3_measure 73 = .ok (.iload 6, 2) := by decide +kernel
theorem dX3_measure_75 : decode cX3_measure 75 = .ok (.iaload, 1) := by decide +kernel
theorem dX3_measure_76 : decode cX3_measure 76 = .ok (.bipush 8, 2) := by decide +kernel
theorem dX3_measure_78 : decode cX3_measure 78 = .ok (.if_icmp .ne 33, 3) := by decide +kernel
theorem dX3_measure_81 : decode cX3_measure 81 = .ok (.aload_n 0, 1) := by decide +kernel
theorem dX3_measure_82 : decode cX3_measure 82 = .ok (.getfield 9, 3) := by decide +kernel
theorem dX3_measure_85 : decode cX3_measure 85 = .ok (.iload 6, 2) := by decide +kernel
theorem dX3_measure_87 : decode cX3_measure 87 = .ok (.iaload, 1) := by decide +kernel
theorem dX3_measure_88 : decode cX3_measure 88 = .ok (.iload_n 3, 1) := by decide +kernel
theorem dX3_measure_89 : decode cX3_measure 89 = .ok (.iand, 1) := by decide +kernel
theorem dX3_measure_90 : decode cX3_measure 90 = .ok (.ifCond .eq 21, 3) := by decide +kernel
theorem dX3_measure_93 : decode cX3_measure 93 = .ok (.aload_n 0, 1) := by decide +kernel
theorem dX3_measure_94 : decode cX3_measure 94 = .ok (.getfield 15, 3) := by decide +kernel
theorem dX3_measure_97 : decode cX3_measure 97 = .ok (.iload 6, 2) := by decide +kernel
theorem dX3_measure_99 : decode cX3_measure 99 = .ok (.iload 4, 2) := by decide +kernel
theorem dX3_measure_101 : decode cX3_measure 101 = .ok (.iastore, 1) := by decide +kernel
theorem dX3_measure_102 : decode cX3_measure 102 = .ok (.iload 5, 2) := by decide +kernel
theorem dX3_measure_104 : decode cX3_measure 104 = .ok (.iconst 1, 1) := by decide +kernel
theorem dX3_measure_105 : decode cX3_measure 105 = .ok (.iload 6, 2) := by decide +kernel
theorem dX3_measure_107 : decode cX3_measure 107 = .ok (.ishl, 1) := by decide +kernel
theorem dX3_measure_108 : decode cX3_measure 108 = .ok (.ior, 1) := by decide +kernel
theorem dX3_measure_109 : decode cX3_measure 109 = .ok (.istore 5, 2) := by decide +kernel
theorem dX3_measure_111 : decode cX3_measure 111 = .ok (.iinc 6 1, 3) := by decide +kernel
theorem dX3_measure_114 : decode cX3_measure 114 = .ok (.goto (-52), 3) := by decide +kernel
theorem dX3_measure_117 : decode cX3_measure 117 = .ok (.iload 5, 2) := by decide +kernel
theorem dX3_measure_119 : decode cX3_measure 119 = .ok (.istore_n 3, 1) := by decide +kernel
theorem dX3_measure_120 : decode cX3_measure 120 = .ok (.iinc 4 1, 3) := by decide +kernel
theorem dX3_measure_123 : decode cX3_measure 123 = .ok (.goto (-74), 3) := by decide +kernel
theorem dX3_measure_126 : decode cX3_measure 126 = .ok (.return_, 1) := by decide +kernel
theorem dX3_shortestRing_0 : decode cX3_shortestRing 0 = .ok (.iconst 0, 1) := by decide +kernel
theorem dX3_shortestRing_1 : decode cX3_shortestRing 1 = .ok (.istore_n 2, 1) := by decide +kernel
theorem dX3_shortestRing_2 : decode cX3_shortestRing 2 = .ok (.iload_n 1, 1) := by decide +kernel
theorem dX3_shortestRing_3 : decode cX3_shortestRing 3 = .ok (.istore_n 3, 1) := by decide +kernel
theorem dX3_shortestRing_4 : decode cX3_shortestRing 4 = .ok (.iconst 0, 1) := by decide +kernel
theorem dX3_shortestRing_5 : decode cX3_shortestRing 5 = .ok (.istore 4, 2) := by decide +kernel
theorem dX3_shortestRing_7 : decode cX3_shortestRing 7 = .ok (.iload 4, 2) := by decide +kernel
theorem dX3_shortestRing_9 : decode cX3_shortestRing 9 = .ok (.bipush 8, 2) := by decide +kernel
theorem dX3_shortestRing_11 : decode cX3_shortestRing 11 = .ok (.if_icmp .ge 41, 3) := by decide +kernel
theorem dX3_shortestRing_14 : decode cX3_shortestRing 14 = .ok (.iload_n 2, 1) := by decide +kernel
theorem dX3_shortestRing_15 : decode cX3_shortestRing 15 = .ok (.iconst 1, 1) := by decide +kernel
theorem dX3_shortestRing_16 : decode cX3_shortestRing 16 = .ok (.iload_n 3, 1) := by decide +kernel
theorem dX3_shortestRing_17 : decode cX3_shortestRing 17 = .ok (.ishl, 1) := by decide +kernel
theorem dX3_shortestRing_18 : decode cX3_shortestRing 18 = .ok (.ior, 1) := by decide +kernel
theorem dX3_shortestRing_19 : decode cX3_shortestRing 19 = .ok (.istore_n 2, 1) := by decide +kernel
theorem dX3_shortestRing_20 : decode cX3_shortestRing 20 = .ok (.aload_n 0, 1) := by decide +kernel
theorem dX3_shortestRing_21 : decode cX3_shortestRing 21 = .ok (.aload_n 0, 1) := by decide +kernel
theorem dX3_shortestRing_22 : decode cX3_shortestRing 22 = .ok (.getfield 9, 3) := by decide +kernel
theorem dX3_shortestRing_25 : decode cX3_shortestRing 25 = .ok (.iload_n 3, 1) := by decide +kernel
theorem dX3_shortestRing_26 : decode cX3_shortestRing 26 = .ok (.iaload, 1) := by decide +kernel
theorem dX3_shortestRing_27 : decode cX3_shortestRing 27 = .ok (.invokevirtual 43, 3) := by decide +kernel
theorem dX3_shortestRing_30 : decode cX3_shortestRing 30 = .ok (.istore_n 3, 1) := by decide +kernel
theorem dX3_shortestRing_31 : decode cX3_shortestRing 31 = .ok (.iload_n 3, 1) := by decide +kernel
theorem dX3_shortestRing_32 : decode cX3_shortestRing 32 = .ok (.iload_n 1, 1) := by decide +kernel
theorem dX3_shortestRing_33 : decode cX3_shortestRing 33 = .ok (.if_icmp .ne 5, 3) := by decide +kernel
theorem dX3_shortestRing_36 : decode cX3_shortestRing 36 = .ok (.iload_n 2, 1) := by decide +kernel
theorem dX3_shortestRing_37 : decode cX3_shortestRing 37 = .ok (.ireturn, 1) := by decide +kernel
theorem dX3_shortestRing_38 : decode cX3_shortestRing 38 = .ok (.iload_n 3, 1) := by decide +kernel
theorem dX3_shortestRing_39 : decode cX3_shortestRing 39 = .ok (.iconst (-1), 1) := by decide +kernel
theorem dX3_shortestRing_40 : decode cX3_shortestRing 40 = .ok (.if_icmp .ne 6, 3) := by decide +kernel
theorem dX3_shortestRing_43 : decode cX3_shortestRing 43 = .ok (.goto 9, 3) := by decide +kernel
theorem dX3_shortestRing_46 : decode cX3_shortestRing 46 = .ok (.iinc 4 1, 3) := by decide +kernel
theorem dX3_shortestRing_49 : decode cX3_shortestRing 49 = .ok (.goto (-42), 3) := by decide +kernel
theorem dX3_shortestRing_52 : decode cX3_shortestRing 52 = .ok (.iconst 0, 1) := by decide +kernel
theorem dX3_shortestRing_53 : decode cX3_shortestRing 53 = .ok (.ireturn, 1) := by decide +kernel
theorem dX3_nearest_0 : decode cX3_nearest 0 = .ok (.iconst (-1), 1) := by decide +kernel
theorem dX3_nearest_1 : decode cX3_nearest 1 = .ok (.istore_n 2, 1) := by decide +kernel
theorem dX3_nearest_2 : decode cX3_nearest 2 = .ok (.bipush 8, 2) := by decide +kernel
theorem dX3_nearest_4 : decode cX3_nearest 4 = .ok (.istore_n 3, 1) := by decide +kernel
theorem dX3_nearest_5 : decode cX3_nearest 5 = .ok (.iconst 0, 1) := by decide +kernel
theorem dX3_nearest_6 : decode cX3_nearest 6 = .ok (.istore 4, 2) := by decide +kernel
theorem dX3_nearest_8 : decode cX3_nearest 8 = .ok (.iload 4, 2) := by decide +kernel
theorem dX3_nearest_10 : decode cX3_nearest 10 = .ok (.bipush 8, 2) := by decide +kernel
theorem dX3_nearest_12 : decode cX3_nearest 12 = .ok (.if_icmp .ge 41, 3) := by decide +kernel
theorem dX3_nearest_15 : decode cX3_nearest 15 = .ok (.iload_n 1, 1) := by decide +kernel
theorem dX3_nearest_16 : decode cX3_nearest 16 = .ok (.iload 4, 2) := by decide +kernel
theorem dX3_nearest_18 : decode cX3_nearest 18 = .ok (.ishr, 1) := by decide +kernel
theorem dX3_nearest_19 : decode cX3_nearest 19 = .ok (.iconst 1, 1) := by decide +kernel
theorem dX3_nearest_20 : decode cX3_nearest 20 = .ok (.iand, 1) := by decide +kernel
theorem dX3_nearest_21 : decode cX3_nearest 21 = .ok (.iconst 1, 1) := by decide +kernel
theorem dX3_nearest_22 : decode cX3_nearest 22 = .ok (.if_icmp .ne 25, 3) := by decide +kernel
theorem dX3_nearest_25 : decode cX3_nearest 25 = .ok (.aload_n 0, 1) := by decide +kernel
theorem dX3_nearest_26 : decode cX3_nearest 26 = .ok (.getfield 15, 3) := by decide +kernel
theorem dX3_nearest_29 : decode cX3_nearest 29 = .ok (.iload 4, 2) := by decide +kernel
theorem dX3_nearest_31 : decode cX3_nearest 31 = .ok (.iaload, 1) := by decide +kernel
theorem dX3_nearest_32 : decode cX3_nearest 32 = .ok (.iload_n 3, 1) := by decide +kernel
theorem dX3_nearest_33 : decode cX3_nearest 33 = .ok (.if_icmp .ge 14, 3) := by decide +kernel
theorem dX3_nearest_36 : decode cX3_nearest 36 = .ok (.iload 4, 2) := by decide +kernel
theorem dX3_nearest_38 : decode cX3_nearest 38 = .ok (.istore_n 2, 1) := by decide +kernel
theorem dX3_nearest_39 : decode cX3_nearest 39 = .ok (.aload_n 0, 1) := by decide +kernel
theorem dX3_nearest_40 : decode cX3_nearest 40 = .ok (.getfield 15, 3) := by decide +kernel
theorem dX3_nearest_43 : decode cX3_nearest 43 = .ok (.iload 4, 2) := by decide +kernel
theorem dX3_nearest_45 : decode cX3_nearest 45 = .ok (.iaload, 1) := by decide +kernel
theorem dX3_nearest_46 : decode cX3_nearest 46 = .ok (.istore_n 3, 1) := by decide +kernel
theorem dX3_nearest_47 : decode cX3_nearest 47 = .ok (.iinc 4 1, 3) := by decide +kernel
theorem dX3_nearest_50 : decode cX3_nearest 50 = .ok (.goto (-42), 3) := by decide +kernel
theorem dX3_nearest_53 : decode cX3_nearest 53 = .ok (.iload_n 2, 1) := by decide +kernel
theorem dX3_nearest_54 : decode cX3_nearest 54 = .ok (.ireturn, 1) := by decide +kernel
theorem dX3_chooseVictim_0 : decode cX3_chooseVictim 0 = .ok (.iconst (-1), 1) := by decide +kernel
theorem dX3_chooseVictim_1 : decode cX3_chooseVictim 1 = .ok (.istore_n 3, 1) := by decide +kernel
theorem dX3_chooseVictim_2 : decode cX3_chooseVictim 2 = .ok (.iconst 0, 1) := by decide +kernel
theorem dX3_chooseVictim_3 : decode cX3_chooseVictim 3 = .ok (.istore 4, 2) := by decide +kernel
theorem dX3_chooseVictim_5 : decode cX3_chooseVictim 5 = .ok (.iload 4, 2) := by decide +kernel
theorem dX3_chooseVictim_7 : decode cX3_chooseVictim 7 = .ok (.bipush 8, 2) := by decide +kernel
theorem dX3_chooseVictim_9 : decode cX3_chooseVictim 9 = .ok (.if_icmp .ge 50, 3) := by decide +kernel
theorem dX3_chooseVictim_12 : decode cX3_chooseVictim 12 = .ok (.iload_n 2, 1) := by decide +kernel
theorem dX3_chooseVictim_13 : decode cX3_chooseVictim 13 = .ok (.iload 4, 2) := by decide +kernel
theorem dX3_chooseVictim_15 : decode cX3_chooseVictim 15 = .ok (.ishr, 1) := by decide +kernel
theorem dX3_chooseVictim_16 : decode cX3_chooseVictim 16 = .ok (.iconst 1, 1) := by decide +kernel
theorem dX3_chooseVictim_17 : decode cX3_chooseVictim 17 = .ok (.iand, 1) := by decide +kernel
theorem dX3_chooseVictim_18 : decode cX3_chooseVictim 18 = .ok (.iconst 1, 1) := by decide +kernel
theorem dX3_chooseVictim_19 : decode cX3_chooseVictim 19 = .ok (.if_icmp .ne 7, 3) := by decide +kernel
theorem dX3_chooseVictim_22 : decode cX3_chooseVictim 22 = .ok (.iconst 1, 1) := by decide +kernel
theorem dX3_chooseVictim_23 : decode cX3_chooseVictim 23 = .ok (.goto 4, 3) := by decide +kernel
theorem dX3_chooseVictim_26 : decode cX3_chooseVictim 26 = .ok (.iconst 0, 1) := by decide +kernel
theorem dX3_chooseVictim_27 : decode cX3_chooseVictim 27 = .ok (.istore 5, 2) := by decide +kernel
theorem dX3_chooseVictim_29 : decode cX3_chooseVictim 29 = .ok (.iload 5, 2) := by decide +kernel
theorem dX3_chooseVictim_31 : decode cX3_chooseVictim 31 = .ok (.ifCond .eq 22, 3) := by decide +kernel
theorem dX3_chooseVictim_34 : decode cX3_chooseVictim 34 = .ok (.iload_n 3, 1) := by decide +kernel
theorem dX3_chooseVictim_35 : decode cX3_chooseVictim 35 = .ok (.iconst (-1), 1) := by decide +kernel
theorem dX3_chooseVictim_36 : decode cX3_chooseVictim 36 = .ok (.if_icmp .eq 14, 3) := by decide +kernel
theorem dX3_chooseVictim_39 : decode cX3_chooseVictim 39 = .ok (.aload_n 0, 1) := by decide +kernel
theorem dX3_chooseVictim_40 : decode cX3_chooseVictim 40 = .ok (.aload_n 1, 1) := by decide +kernel
theorem dX3_chooseVictim_41 : decode cX3_chooseVictim 41 = .ok (.iload 4, 2) := by decide +kernel
theorem dX3_chooseVictim_43 : decode cX3_chooseVictim 43 = .ok (.iload_n 3, 1) := by decide +kernel
theorem dX3_chooseVictim_44 : decode cX3_chooseVictim 44 = .ok (.invokevirtual 46, 3) := by decide +kernel
theorem dX3_chooseVictim_47 : decode cX3_chooseVictim 47 = .ok (.ifCond .eq 6, 3) := by decide +kernel
theorem dX3_chooseVictim_50 : decode cX3_chooseVictim 50 = .ok (.iload 4, 2) := by decide +kernel
theorem dX3_chooseVictim_52 : decode cX3_chooseVictim 52 = .ok (.istore_n 3, 1) := by decide +kernel
theorem dX3_chooseVictim_53 : decode cX3_chooseVictim 53 = .ok (.iinc 4 1, 3) := by decide +kernel
theorem dX3_chooseVictim_56 : decode cX3_chooseVictim 56 = .ok (.goto (-51), 3) := by decide +kernel
theorem dX3_chooseVictim_59 : decode cX3_chooseVictim 59 = .ok (.iload_n 3, 1) := by decide +kernel
theorem dX3_chooseVictim_60 : decode cX3_chooseVictim 60 = .ok (.ireturn, 1) := by decide +kernel
theorem dX3_goesBefore_0 : decode cX3_goesBefore 0 = .ok (.aload_n 1, 1) := by decide +kernel
theorem dX3_goesBefore_1 : decode cX3_goesBefore 1 = .ok (.getfield 50, 3) := by decide +kernel
theorem dX3_goesBefore_4 : decode cX3_goesBefore 4 = .ok (.iload_n 2, 1) := by decide +kernel
theorem dX3_goesBefore_5 : decode cX3_goesBefore 5 = .ok (.iaload, 1) := by decide +kernel
theorem dX3_goesBefore_6 : decode cX3_goesBefore 6 = .ok (.iconst 2, 1) := by decide +kernel
theorem dX3_goesBefore_7 : decode cX3_goesBefore 7 = .ok (.if_icmp .lt 7, 3) := by decide +kernel
theorem dX3_goesBefore_10 : decode cX3_goesBefore 10 = .ok (.iconst 1, 1) := by decide +kernel
theorem dX3_goesBefore_11 : decode cX3_goesBefore 11 = .ok (.goto 4, 3) := by decide +kernel
theorem dX3_goesBefore_14 : decode cX3_goesBefore 14 = .ok (.iconst 0, 1) := by decide +kernel
theorem dX3_goesBefore_15 : decode cX3_goesBefore 15 = .ok (.istore 4, 2) := by decide +kernel
theorem dX3_goesBefore_17 : decode cX3_goesBefore 17 = .ok (.aload_n 1, 1) := by decide +kernel
theorem dX3_goesBefore_18 : decode cX3_goesBefore 18 = .ok (.getfield 50, 3) := by decide +kernel
theorem dX3_goesBefore_21 : decode cX3_goesBefore 21 = .ok (.iload_n 3, 1) := by decide +kernel
theorem dX3_goesBefore_22 : decode cX3_goesBefore 22 = .ok (.iaload, 1) := by decide +kernel
theorem dX3_goesBefore_23 : decode cX3_goesBefore 23 = .ok (.iconst 2, 1) := by decide +kernel
theorem dX3_goesBefore_24 : decode cX3_goesBefore 24 = .ok (.if_icmp .lt 7, 3) := by decide +kernel
theorem dX3_goesBefore_27 : decode cX3_goesBefore 27 = .ok (.iconst 1, 1) := by decide +kernel
theorem dX3_goesBefore_28 : decode cX3_goesBefore 28 = .ok (.goto 4, 3) := by decide +kernel
theorem dX3_goesBefore_31 : decode cX3_goesBefore 31 = .ok (.iconst 0, 1) := by decide +kernel
theorem dX3_goesBefore_32 : decode cX3_goesBefore 32 = .ok (.istore 5, 2) := by decide +kernel
theorem dX3_goesBefore_34 : decode cX3_goesBefore 34 = .ok (.iload 4, 2) := by decide +kernel
theorem dX3_goesBefore_36 : decode cX3_goesBefore 36 = .ok (.iload 5, 2) := by decide +kernel
theorem dX3_goesBefore_38 : decode cX3_goesBefore 38 = .ok (.if_icmp .eq 6, 3) := by decide +kernel
theorem dX3_goesBefore_41 : decode cX3_goesBefore 41 = .ok (.iload 5, 2) := by decide +kernel
theorem dX3_goesBefore_43 : decode cX3_goesBefore 43 = .ok (.ireturn, 1) := by decide +kernel
theorem dX3_goesBefore_44 : decode cX3_goesBefore 44 = .ok (.aload_n 1, 1) := by decide +kernel
theorem dX3_goesBefore_45 : decode cX3_goesBefore 45 = .ok (.getfield 53, 3) := by decide +kernel
theorem dX3_goesBefore_48 : decode cX3_goesBefore 48 = .ok (.iload_n 2, 1) := by decide +kernel
theorem dX3_goesBefore_49 : decode cX3_goesBefore 49 = .ok (.iaload, 1) := by decide +kernel
theorem dX3_goesBefore_50 : decode cX3_goesBefore 50 = .ok (.aload_n 1, 1) := by decide +kernel
theorem dX3_goesBefore_51 : decode cX3_goesBefore 51 = .ok (.getfield 53, 3) := by decide +kernel
theorem dX3_goesBefore_54 : decode cX3_goesBefore 54 = .ok (.iload_n 3, 1) := by decide +kernel
theorem dX3_goesBefore_55 : decode cX3_goesBefore 55 = .ok (.iaload, 1) := by decide +kernel
theorem dX3_goesBefore_56 : decode cX3_goesBefore 56 = .ok (.if_icmp .eq 24, 3) := by decide +kernel
theorem dX3_goesBefore_59 : decode cX3_goesBefore 59 = .ok (.aload_n 1, 1) := by decide +kernel
theorem dX3_goesBefore_60 : decode cX3_goesBefore 60 = .ok (.getfield 53, 3) := by decide +kernel
theorem dX3_goesBefore_63 : decode cX3_goesBefore 63 = .ok (.iload_n 2, 1) := by decide +kernel
theorem dX3_goesBefore_64 : decode cX3_goesBefore 64 = .ok (.iaload, 1) := by decide +kernel
theorem dX3_goesBefore_65 : decode cX3_goesBefore 65 = .ok (.aload_n 1, 1) := by decide +kernel
theorem dX3_goesBefore_66 : decode cX3_goesBefore 66 = .ok (.getfield 53, 3) := by decide +kernel
theorem dX3_goesBefore_69 : decode cX3_goesBefore 69 = .ok (.iload_n 3, 1) := by decide +kernel
theorem dX3_goesBefore_70 : decode cX3_goesBefore 70 = .ok (.iaload, 1) := by decide +kernel
theorem dX3_goesBefore_71 : decode cX3_goesBefore 71 = .ok (.if_icmp .ge 7, 3) := by decide +kernel
theorem dX3_goesBefore_74 : decode cX3_goesBefore 74 = .ok (.iconst 1, 1) := by decide +kernel
theorem dX3_goesBefore_75 : decode cX3_goesBefore 75 = .ok (.goto 4, 3) := by decide +kernel
theorem dX3_goesBefore_78 : decode cX3_goesBefore 78 = .ok (.iconst 0, 1) := by decide +kernel
theorem dX3_goesBefore_79 : decode cX3_goesBefore 79 = .ok (.ireturn, 1) := by decide +kernel
theorem dX3_goesBefore_80 : decode cX3_goesBefore 80 = .ok (.aload_n 1, 1) := by decide +kernel
theorem dX3_goesBefore_81 : decode cX3_goesBefore 81 = .ok (.getfield 56, 3) := by decide +kernel
theorem dX3_goesBefore_84 : decode cX3_goesBefore 84 = .ok (.iload_n 2, 1) := by decide +kernel
theorem dX3_goesBefore_85 : decode cX3_goesBefore 85 = .ok (.iaload, 1) := by decide +kernel
theorem dX3_goesBefore_86 : decode cX3_goesBefore 86 = .ok (.aload_n 1, 1) := by decide +kernel
theorem dX3_goesBefore_87 : decode cX3_goesBefore 87 = .ok (.getfield 56, 3) := by decide +kernel
theorem dX3_goesBefore_90 : decode cX3_goesBefore 90 = .ok (.iload_n 3, 1) := by decide +kernel
theorem dX3_goesBefore_91 : decode cX3_goesBefore 91 = .ok (.iaload, 1) := by decide +kernel
theorem dX3_goesBefore_92 : decode cX3_goesBefore 92 = .ok (.if_icmp .le 7, 3) := by decide +kernel
theorem dX3_goesBefore_95 : decode cX3_goesBefore 95 = .ok (.iconst 1, 1) := by decide +kernel
theorem dX3_goesBefore_96 : decode cX3_goesBefore 96 = .ok (.goto 4, 3) := by decide +kernel
theorem dX3_goesBefore_99 : decode cX3_goesBefore 99 = .ok (.iconst 0, 1) := by decide +kernel
theorem dX3_goesBefore_100 : decode cX3_goesBefore 100 = .ok (.ireturn, 1) := by decide +kernel
