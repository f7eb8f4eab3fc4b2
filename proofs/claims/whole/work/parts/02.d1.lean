theorem dX5_settle_21 : decode cX5_settle 21 = .ok (.sipush 1000, 3) := by decide +kernel
theorem dX5_settle_24 : decode cX5_settle 24 = .ok (.istore 6, 2) := by decide +kernel
theorem dX5_settle_26 : decode cX5_settle 26 = .ok (.iload_n 1, 1) := by decide +kernel
theorem dX5_settle_27 : decode cX5_settle 27 = .ok (.invokestatic 76, 3) := by decide +kernel
theorem dX5_settle_30 : decode cX5_settle 30 = .ok (.istore 7, 2) := by decide +kernel
theorem dX5_settle_32 : decode cX5_settle 32 = .ok (.aload_n 0, 1) := by decide +kernel
theorem dX5_settle_33 : decode cX5_settle 33 = .ok (.iload_n 1, 1) := by decide +kernel
theorem dX5_settle_34 : decode cX5_settle 34 = .ok (.iload_n 2, 1) := by decide +kernel
theorem dX5_settle_35 : decode cX5_settle 35 = .ok (.iload_n 3, 1) := by decide +kernel
theorem dX5_settle_36 : decode cX5_settle 36 = .ok (.invokevirtual 82, 3) := by decide +kernel
theorem dX5_settle_39 : decode cX5_settle 39 = .ok (.istore 8, 2) := by decide +kernel
theorem dX5_settle_41 : decode cX5_settle 41 = .ok (.iconst 0, 1) := by decide +kernel
theorem dX5_settle_42 : decode cX5_settle 42 = .ok (.istore 9, 2) := by decide +kernel
theorem dX5_settle_44 : decode cX5_settle 44 = .ok (.iload 9, 2) := by decide +kernel
theorem dX5_settle_46 : decode cX5_settle 46 = .ok (.aload_n 0, 1) := by decide +kernel
theorem dX5_settle_47 : decode cX5_settle 47 = .ok (.getfield 37, 3) := by decide +kernel
theorem dX5_settle_50 : decode cX5_settle 50 = .ok (.if_icmp .ge 71, 3) := by decide +kernel
theorem dX5_settle_53 : decode cX5_settle 53 = .ok (.iload 8, 2) := by decide +kernel
theorem dX5_settle_55 : decode cX5_settle 55 = .ok (.iload 9, 2) := by decide +kernel
theorem dX5_settle_57 : decode cX5_settle 57 = .ok (.invokestatic 47, 3) := by decide +kernel
theorem dX5_settle_60 : decode cX5_settle 60 = .ok (.ifCond .eq 55, 3) := by decide +kernel
theorem dX5_settle_63 : decode cX5_settle 63 = .ok (.aload_n 0, 1) := by decide +kernel
theorem dX5_settle_64 : decode cX5_settle 64 = .ok (.iload_n 1, 1) := by decide +kernel
theorem dX5_settle_65 : decode cX5_settle 65 = .ok (.iload_n 2, 1) := by decide +kernel
theorem dX5_settle_66 : decode cX5_settle 66 = .ok (.iload 9, 2) := by decide +kernel
theorem dX5_settle_68 : decode cX5_settle 68 = .ok (.invokevirtual 86, 3) := by decide +kernel
theorem dX5_settle_71 : decode cX5_settle 71 = .ok (.istore 10, 2) := by decide +kernel
theorem dX5_settle_73 : decode cX5_settle 73 = .ok (.iload 5, 2) := by decide +kernel
theorem dX5_settle_75 : decode cX5_settle 75 = .ok (.aload_n 0, 1) := by decide +kernel
theorem dX5_settle_76 : decode cX5_settle 76 = .ok (.getfield 11, 3) := by decide +kernel
theorem dX5_settle_79 : decode cX5_settle 79 = .ok (.iload 10, 2) := by decide +kernel
theorem dX5_settle_81 : decode cX5_settle 81 = .ok (.iaload, 1) := by decide +kernel
theorem dX5_settle_82 : decode cX5_settle 82 = .ok (.iadd, 1) := by decide +kernel
theorem dX5_settle_83 : decode cX5_settle 83 = .ok (.istore 5, 2) := by decide +kernel
theorem dX5_settle_85 : decode cX5_settle 85 = .ok (.iload 6, 2) := by decide +kernel
theorem dX5_settle_87 : decode cX5_settle 87 = .ok (.aload_n 0, 1) := by decide +kernel
theorem dX5_settle_88 : decode cX5_settle 88 = .ok (.getfield 18, 3) := by decide +kernel
theorem dX5_settle_91 : decode cX5_settle 91 = .ok (.iload 9, 2) := by decide +kernel
theorem dX5_settle_93 : decode cX5_settle 93 = .ok (.bipush 7, 2) := by decide +kernel
theorem dX5_settle_95 : decode cX5_settle 95 = .ok (.imul, 1) := by decide +kernel
theorem dX5_settle_96 : decode cX5_settle 96 = .ok (.iload 7, 2) := by decide +kernel
theorem dX5_settle_98 : decode cX5_settle 98 = .ok (.iadd, 1) := by decide +kernel
theorem dX5_settle_99 : decode cX5_settle 99 = .ok (.iaload, 1) := by decide +kernel
theorem dX5_settle_100 : decode cX5_settle 100 = .ok (.aload_n 0, 1) := by decide +kernel
theorem dX5_settle_101 : decode cX5_settle 101 = .ok (.getfield 15, 3) := by decide +kernel
theorem dX5_settle_104 : decode cX5_settle 104 = .ok (.iload 10, 2) := by decide +kernel
theorem dX5_settle_106 : decode cX5_settle 106 = .ok (.iaload, 1) := by decide +kernel
theorem dX5_settle_107 : decode cX5_settle 107 = .ok (.invokestatic 110, 3) := by decide +kernel
theorem dX5_settle_110 : decode cX5_settle 110 = .ok (.invokestatic 115, 3) := by decide +kernel
theorem dX5_settle_113 : decode cX5_settle 113 = .ok (.istore 6, 2) := by decide +kernel
theorem dX5_settle_115 : decode cX5_settle 115 = .ok (.iinc 9 1, 3) := by decide +kernel
theorem dX5_settle_118 : decode cX5_settle 118 = .ok (.goto (-74), 3) := by decide +kernel
theorem dX5_settle_121 : decode cX5_settle 121 = .ok (.aload_n 0, 1) := by decide +kernel
theorem dX5_settle_122 : decode cX5_settle 122 = .ok (.getfield 11, 3) := by decide +kernel
theorem dX5_settle_125 : decode cX5_settle 125 = .ok (.iload_n 1, 1) := by decide +kernel
theorem dX5_settle_126 : decode cX5_settle 126 = .ok (.iload_n 2, 1) := by decide +kernel
theorem dX5_settle_127 : decode cX5_settle 127 = .ok (.iload_n 3, 1) := by decide +kernel
theorem dX5_settle_128 : decode cX5_settle 128 = .ok (.invokestatic 118, 3) := by decide +kernel
theorem dX5_settle_131 : decode cX5_settle 131 = .ok (.iload 5, 2) := by decide +kernel
theorem dX5_settle_133 : decode cX5_settle 133 = .ok (.iastore, 1) := by decide +kernel
theorem dX5_settle_134 : decode cX5_settle 134 = .ok (.aload_n 0, 1) := by decide +kernel
theorem dX5_settle_135 : decode cX5_settle 135 = .ok (.getfield 15, 3) := by decide +kernel
theorem dX5_settle_138 : decode cX5_settle 138 = .ok (.iload_n 1, 1) := by decide +kernel
theorem dX5_settle_139 : decode cX5_settle 139 = .ok (.iload_n 2, 1) := by decide +kernel
theorem dX5_settle_140 : decode cX5_settle 140 = .ok (.iload_n 3, 1) := by decide +kernel
theorem dX5_settle_141 : decode cX5_settle 141 = .ok (.invokestatic 118, 3) := by decide +kernel
theorem dX5_settle_144 : decode cX5_settle 144 = .ok (.iload 6, 2) := by decide +kernel
theorem dX5_settle_146 : decode cX5_settle 146 = .ok (.iastore, 1) := by decide +kernel
theorem dX5_settle_147 : decode cX5_settle 147 = .ok (.return_, 1) := by decide +kernel
theorem dX5_openTo_0 : decode cX5_openTo 0 = .ok (.aload_n 0, 1) := by decide +kernel
theorem dX5_openTo_1 : decode cX5_openTo 1 = .ok (.getfield 21, 3) := by decide +kernel
theorem dX5_openTo_4 : decode cX5_openTo 4 = .ok (.iload_n 2, 1) := by decide +kernel
theorem dX5_openTo_5 : decode cX5_openTo 5 = .ok (.iaload, 1) := by decide +kernel
theorem dX5_openTo_6 : decode cX5_openTo 6 = .ok (.iload_n 1, 1) := by decide +kernel
theorem dX5_openTo_7 : decode cX5_openTo 7 = .ok (.iconst (-1), 1) := by decide +kernel
theorem dX5_openTo_8 : decode cX5_openTo 8 = .ok (.ixor, 1) := by decide +kernel
theorem dX5_openTo_9 : decode cX5_openTo 9 = .ok (.iand, 1) := by decide +kernel
theorem dX5_openTo_10 : decode cX5_openTo 10 = .ok (.istore 4, 2) := by decide +kernel
theorem dX5_openTo_12 : decode cX5_openTo 12 = .ok (.iload_n 3, 1) := by decide +kernel
theorem dX5_openTo_13 : decode cX5_openTo 13 = .ok (.iconst 1, 1) := by decide +kernel
theorem dX5_openTo_14 : decode cX5_openTo 14 = .ok (.if_icmp .ne 13, 3) := by decide +kernel
theorem dX5_openTo_17 : decode cX5_openTo 17 = .ok (.iload 4, 2) := by decide +kernel
theorem dX5_openTo_19 : decode cX5_openTo 19 = .ok (.aload_n 0, 1) := by decide +kernel
theorem dX5_openTo_20 : decode cX5_openTo 20 = .ok (.getfield 55, 3) := by decide +kernel
theorem dX5_openTo_23 : decode cX5_openTo 23 = .ok (.iand, 1) := by decide +kernel
theorem dX5_openTo_24 : decode cX5_openTo 24 = .ok (.goto 5, 3) := by decide +kernel
theorem dX5_openTo_27 : decode cX5_openTo 27 = .ok (.iload 4, 2) := by decide +kernel
theorem dX5_openTo_29 : decode cX5_openTo 29 = .ok (.ireturn, 1) := by decide +kernel
theorem dX5_stateThen_0 : decode cX5_stateThen 0 = .ok (.iload_n 1, 1) := by decide +kernel
theorem dX5_stateThen_1 : decode cX5_stateThen 1 = .ok (.iconst 1, 1) := by decide +kernel
theorem dX5_stateThen_2 : decode cX5_stateThen 2 = .ok (.iload_n 3, 1) := by decide +kernel
theorem dX5_stateThen_3 : decode cX5_stateThen 3 = .ok (.ishl, 1) := by decide +kernel
theorem dX5_stateThen_4 : decode cX5_stateThen 4 = .ok (.ior, 1) := by decide +kernel
theorem dX5_stateThen_5 : decode cX5_stateThen 5 = .ok (.iload_n 3, 1) := by decide +kernel
theorem dX5_stateThen_6 : decode cX5_stateThen 6 = .ok (.aload_n 0, 1) := by decide +kernel
theorem dX5_stateThen_7 : decode cX5_stateThen 7 = .ok (.iload_n 2, 1) := by decide +kernel
theorem dX5_stateThen_8 : decode cX5_stateThen 8 = .ok (.iload_n 3, 1) := by decide +kernel
theorem dX5_stateThen_9 : decode cX5_stateThen 9 = .ok (.invokevirtual 68, 3) := by decide +kernel
theorem dX5_stateThen_12 : decode cX5_stateThen 12 = .ok (.invokestatic 118, 3) := by decide +kernel
theorem dX5_stateThen_15 : decode cX5_stateThen 15 = .ok (.ireturn, 1) := by decide +kernel
theorem dX5_aloneThen_0 : decode cX5_aloneThen 0 = .ok (.aload_n 0, 1) := by decide +kernel
theorem dX5_aloneThen_1 : decode cX5_aloneThen 1 = .ok (.getfield 55, 3) := by decide +kernel
theorem dX5_aloneThen_4 : decode cX5_aloneThen 4 = .ok (.iload_n 2, 1) := by decide +kernel
theorem dX5_aloneThen_5 : decode cX5_aloneThen 5 = .ok (.invokestatic 47, 3) := by decide +kernel
theorem dX5_aloneThen_8 : decode cX5_aloneThen 8 = .ok (.ifCond .eq 18, 3) := by decide +kernel
theorem dX5_aloneThen_11 : decode cX5_aloneThen 11 = .ok (.aload_n 0, 1) := by decide +kernel
theorem dX5_aloneThen_12 : decode cX5_aloneThen 12 = .ok (.getfield 55, 3) := by decide +kernel
theorem dX5_aloneThen_15 : decode cX5_aloneThen 15 = .ok (.iload_n 1, 1) := by decide +kernel
theorem dX5_aloneThen_16 : decode cX5_aloneThen 16 = .ok (.invokestatic 47, 3) := by decide +kernel
theorem dX5_aloneThen_19 : decode cX5_aloneThen 19 = .ok (.ifCond .ne 7, 3) := by decide +kernel
theorem dX5_aloneThen_22 : decode cX5_aloneThen 22 = .ok (.iconst 1, 1) := by decide +kernel
theorem dX5_aloneThen_23 : decode cX5_aloneThen 23 = .ok (.goto 4, 3) := by decide +kernel
theorem dX5_aloneThen_26 : decode cX5_aloneThen 26 = .ok (.iconst 0, 1) := by decide +kernel
theorem dX5_aloneThen_27 : decode cX5_aloneThen 27 = .ok (.ireturn, 1) := by decide +kernel
theorem dX5_isIn_0 : decode cX5_isIn 0 = .ok (.iload_n 0, 1) := by decide +kernel
theorem dX5_isIn_1 : decode cX5_isIn 1 = .ok (.iload_n 1, 1) := by decide +kernel
theorem dX5_isIn_2 : decode cX5_isIn 2 = .ok (.ishr, 1) := by decide +kernel
theorem dX5_isIn_3 : decode cX5_isIn 3 = .ok (.iconst 1, 1) := by decide +kernel
theorem dX5_isIn_4 : decode cX5_isIn 4 = .ok (.iand, 1) := by decide +kernel
theorem dX5_isIn_5 : decode cX5_isIn 5 = .ok (.iconst 1, 1) := by decide +kernel
theorem dX5_isIn_6 : decode cX5_isIn 6 = .ok (.if_icmp .ne 7, 3) := by decide +kernel
theorem dX5_isIn_9 : decode cX5_isIn 9 = .ok (.iconst 1, 1) := by decide +kernel
theorem dX5_isIn_10 : decode cX5_isIn 10 = .ok (.goto 4, 3) := by decide +kernel
theorem dX5_isIn_13 : decode cX5_isIn 13 = .ok (.iconst 0, 1) := by decide +kernel
theorem dX5_isIn_14 : decode cX5_isIn 14 = .ok (.ireturn, 1) := by decide +kernel
theorem dX5_stateOf_0 : decode cX5_stateOf 0 = .ok (.iload_n 0, 1) := by decide +kernel
theorem dX5_stateOf_1 : decode cX5_stateOf 1 = .ok (.bipush 8, 2) := by decide +kernel
theorem dX5_stateOf_3 : decode cX5_stateOf 3 = .ok (.imul, 1) := by decide +kernel
theorem dX5_stateOf_4 : decode cX5_stateOf 4 = .ok (.iload_n 1, 1) := by decide +kernel
theorem dX5_stateOf_5 : decode cX5_stateOf 5 = .ok (.iadd, 1) := by decide +kernel
theorem dX5_stateOf_6 : decode cX5_stateOf 6 = .ok (.iconst 2, 1) := by decide +kernel
theorem dX5_stateOf_7 : decode cX5_stateOf 7 = .ok (.imul, 1) := by decide +kernel
theorem dX5_stateOf_8 : decode cX5_stateOf 8 = .ok (.iload_n 2, 1) := by decide +kernel
theorem dX5_stateOf_9 : decode cX5_stateOf 9 = .ok (.iadd, 1) := by decide +kernel
theorem dX5_stateOf_10 : decode cX5_stateOf 10 = .ok (.ireturn, 1) := by decide +kernel
theorem dX6_init_0 : decode cX6_init 0 = .ok (.aload_n 0, 1) := by decide +kernel
theorem dX6_init_1 : decode cX6_init 1 = .ok (.invokespecial 3, 3) := by decide +kernel
theorem dX6_init_4 : decode cX6_init 4 = .ok (.aload_n 0, 1) := by decide +kernel
theorem dX6_init_5 : decode cX6_init 5 = .ok (.bipush 7, 2) := by decide +kernel
theorem dX6_init_7 : decode cX6_init 7 = .ok (.newarray .int, 2) := by decide +kernel
theorem dX6_init_9 : decode cX6_init 9 = .ok (.putfield 9, 3) := by decide +kernel
theorem dX6_init_12 : decode cX6_init 12 = .ok (.return_, 1) := by decide +kernel
theorem dX6_size_0 : decode cX6_size 0 = .ok (.aload_n 0, 1) := by decide +kernel
theorem dX6_size_1 : decode cX6_size 1 = .ok (.getfield 15, 3) := by decide +kernel
theorem dX6_size_4 : decode cX6_size 4 = .ok (.ireturn, 1) := by decide +kernel
theorem dX6_blockIn_0 : decode cX6_blockIn 0 = .ok (.iload_n 1, 1) := by decide +kernel
theorem dX6_blockIn_1 : decode cX6_blockIn 1 = .ok (.ifCond .lt 20, 3) := by decide +kernel
theorem dX6_blockIn_4 : decode cX6_blockIn 4 = .ok (.iload_n 1, 1) := by decide +kernel
theorem dX6_blockIn_5 : decode cX6_blockIn 5 = .ok (.aload_n 0, 1) := by decide +kernel
theorem dX6_blockIn_6 : decode cX6_blockIn 6 = .ok (.getfield 15, 3) := by decide +kernel
theorem dX6_blockIn_9 : decode cX6_blockIn 9 = .ok (.if_icmp .ge 12, 3) := by decide +kernel
theorem dX6_blockIn_12 : decode cX6_blockIn 12 = .ok (.aload_n 0, 1) := by decide +kernel
theorem dX6_blockIn_13 : decode cX6_blockIn 13 = .ok (.getfield 9, 3) := by decide +kernel
theorem dX6_blockIn_16 : decode cX6_blockIn 16 = .ok (.iload_n 1, 1) := by decide +kernel
theorem dX6_blockIn_17 : decode cX6_blockIn 17 = .ok (.iaload, 1) := by decide +kernel
theorem dX6_blockIn_18 : decode cX6_blockIn 18 = .ok (.goto 4, 3) := by decide +kernel
theorem dX6_blockIn_21 : decode cX6_blockIn 21 = .ok (.iconst 0, 1) := by decide +kernel
theorem dX6_blockIn_22 : decode cX6_blockIn 22 = .ok (.ireturn, 1) := by decide +kernel
theorem dX6_clear_0 : decode cX6_clear 0 = .ok (.aload_n 0, 1) := by decide +kernel
theorem dX6_clear_1 : decode cX6_clear 1 = .ok (.iconst 0, 1) := by decide +kernel
theorem dX6_clear_2 : decode cX6_clear 2 = .ok (.putfield 15, 3) := by decide +kernel
theorem dX6_clear_5 : decode cX6_clear 5 = .ok (.return_, 1) := by decide +kernel
theorem dX6_append_0 : decode cX6_append 0 = .ok (.aload_n 0, 1) := by decide +kernel
theorem dX6_append_1 : decode cX6_append 1 = .ok (.getfield 15, 3) := by decide +kernel
theorem dX6_append_4 : decode cX6_append 4 = .ok (.bipush 7, 2) := by decide +kernel
theorem dX6_append_6 : decode cX6_append 6 = .ok (.if_icmp .ge 23, 3) := by decide +kernel
theorem dX6_append_9 : decode cX6_append 9 = .ok (.aload_n 0, 1) := by decide +kernel
theorem dX6_append_10 : decode cX6_append 10 = .ok (.getfield 9, 3) := by decide +kernel
theorem dX6_append_13 : decode cX6_append 13 = .ok (.aload_n 0, 1) := by decide +kernel
theorem dX6_append_14 : decode cX6_append 14 = .ok (.getfield 15, 3) := by decide +kernel
theorem dX6_append_17 : decode cX6_append 17 = .ok (.iload_n 1, 1) := by decide +kernel
theorem dX6_append_18 : decode cX6_append 18 = .ok (.iastore, 1) := by decide +kernel
theorem dX6_append_19 : decode cX6_append 19 = .ok (.aload_n 0, 1) := by decide +kernel
theorem dX6_append_20 : decode cX6_append 20 = .ok (.dup, 1) := by decide +kernel
theorem dX6_append_21 : decode cX6_append 21 = .ok (.getfield 15, 3) := by decide +kernel
theorem dX6_append_24 : decode cX6_append 24 = .ok (.iconst 1, 1) := by decide +kernel
theorem dX6_append_25 : decode cX6_append 25 = .ok (.iadd, 1) := by decide +kernel
theorem dX6_append_26 : decode cX6_append 26 = .ok (.putfield 15, 3) := by decide +kernel
theorem dX6_append_29 : decode cX6_append 29 = .ok (.return_, 1) := by decide +kernel
theorem dX6_read_0 : decode cX6_read 0 = .ok (.aload_n 0, 1) := by decide +kernel
theorem dX6_read_1 : decode cX6_read 1 = .ok (.invokevirtual 19, 3) := by decide +kernel
theorem dX6_read_4 : decode cX6_read 4 = .ok (.iload_n 1, 1) := by decide +kernel
theorem dX6_read_5 : decode cX6_read 5 = .ok (.istore_n 3, 1) := by decide +kernel
theorem dX6_read_6 : decode cX6_read 6 = .ok (.iconst 0, 1) := by decide +kernel
theorem dX6_read_7 : decode cX6_read 7 = .ok (.istore 4, 2) := by decide +kernel
theorem dX6_read_9 : decode cX6_read 9 = .ok (.iconst 0, 1) := by decide +kernel
theorem dX6_read_10 : decode cX6_read 10 = .ok (.istore 5, 2) := by decide +kernel
theorem dX6_read_12 : decode cX6_read 12 = .ok (.iload 5, 2) := by decide +kernel
theorem dX6_read_14 : decode cX6_read 14 = .ok (.iload_n 2, 1) := by decide +kernel
theorem dX6_read_15 : decode cX6_read 15 = .ok (.if_icmp .ge 57, 3) := by decide +kernel
theorem dX6_read_18 : decode cX6_read 18 = .ok (.iload_n 3, 1) := by decide +kernel
theorem dX6_read_19 : decode cX6_read 19 = .ok (.ifCond .lt 53, 3) := by decide +kernel
theorem dX6_read_22 : decode cX6_read 22 = .ok (.iload_n 3, 1) := by decide +kernel
theorem dX6_read_23 : decode cX6_read 23 = .ok (.bipush 7, 2) := by decide +kernel
theorem dX6_read_25 : decode cX6_read 25 = .ok (.iand, 1) := by decide +kernel
theorem dX6_read_26 : decode cX6_read 26 = .ok (.istore 6, 2) := by decide +kernel
theorem dX6_read_28 : decode cX6_read 28 = .ok (.iload 6, 2) := by decide +kernel
theorem dX6_read_30 : decode cX6_read 30 = .ok (.iload_n 2, 1) := by decide +kernel
theorem dX6_read_31 : decode cX6_read 31 = .ok (.if_icmp .ge 14, 3) := by decide +kernel
theorem dX6_read_34 : decode cX6_read 34 = .ok (.iload 4, 2) := by decide +kernel
theorem dX6_read_36 : decode cX6_read 36 = .ok (.iload 6, 2) := by decide +kernel
theorem dX6_read_38 : decode cX6_read 38 = .ok (.ishr, 1) := by decide +kernel
theorem dX6_read_39 : decode cX6_read 39 = .ok (.iconst 1, 1) := by decide +kernel
theorem dX6_read_40 : decode cX6_read 40 = .ok (.iand, 1) := by decide +kernel
theorem dX6_read_41 : decode cX6_read 41 = .ok (.iconst 1, 1) := by decide +kernel
theorem dX6_read_42 : decode cX6_read 42 = .ok (.if_icmp .ne 5, 3) := by decide +kernel
theorem dX6_read_45 : decode cX6_read 45 = .ok (.iconst 0, 1) := by decide +kernel
theorem dX6_read_46 : decode cX6_read 46 = .ok (.ireturn, 1) := by decide +kernel
theorem dX6_read_47 : decode cX6_read 47 = .ok (.iload 4, 2) := by decide +kernel
theorem dX6_read_49 : decode cX6_read 49 = .ok (.iconst 1, 1) := by decide +kernel
theorem dX6_read_50 : decode cX6_read 50 = .ok (.iload 6, 2) := by decide +kernel
theorem dX6_read_52 : decode cX6_read 52 = .ok (.ishl, 1) := by decide +kernel
theorem dX6_read_53 : decode cX6_read 53 = .ok (.ior, 1) := by decide +kernel
theorem dX6_read_54 : decode cX6_read 54 = .ok (.istore 4, 2) := by decide +kernel
theorem dX6_read_56 : decode cX6_read 56 = .ok (.aload_n 0, 1) := by decide +kernel
theorem dX6_read_57 : decode cX6_read 57 = .ok (.iload 6, 2) := by decide +kernel
theorem dX6_read_59 : decode cX6_read 59 = .ok (.invokevirtual 22, 3) := by decide +kernel
theorem dX6_read_62 : decode cX6_read 62 = .ok (.iload_n 3, 1) := by decide +kernel
theorem dX6_read_63 : decode cX6_read 63 = .ok (.iconst 3, 1) := by decide +kernel
theorem dX6_read_64 : decode cX6_read 64 = .ok (.ishr, 1) := by decide +kernel
theorem dX6_read_65 : decode cX6_read 65 = .ok (.istore_n 3, 1) := by decide +kernel
theorem dX6_read_66 : decode cX6_read 66 = .ok (.iinc 5 1, 3) := by decide +kernel
theorem dX6_read_69 : decode cX6_read 69 = .ok (.goto (-57), 3) := by decide +kernel
theorem dX6_read_72 : decode cX6_read 72 = .ok (.iload_n 3, 1) := by decide +kernel
theorem dX6_read_73 : decode cX6_read 73 = .ok (.ifCond .ne 7, 3) := by decide +kernel
theorem dX6_read_76 : decode cX6_read 76 = .ok (.iconst 1, 1) := by decide +kernel
theorem dX6_read_77 : decode cX6_read 77 = .ok (.goto 4, 3) := by decide +kernel
theorem dX6_read_80 : decode cX6_read 80 = .ok (.iconst 0, 1) := by decide +kernel
theorem dX6_read_81 : decode cX6_read 81 = .ok (.ireturn, 1) := by decide +kernel
theorem dX6_turnRound_0 : decode cX6_turnRound 0 = .ok (.aload_n 0, 1) := by decide +kernel
theorem dX6_turnRound_1 : decode cX6_turnRound 1 = .ok (.invokevirtual 19, 3) := by decide +kernel
theorem dX6_turnRound_4 : decode cX6_turnRound 4 = .ok (.aload_n 1, 1) := by decide +kernel
theorem dX6_turnRound_5 : decode cX6_turnRound 5 = .ok (.invokevirtual 26, 3) := by decide +kernel
theorem dX6_turnRound_8 : decode cX6_turnRound 8 = .ok (.iconst 1, 1) := by decide +kernel
theorem dX6_turnRound_9 : decode cX6_turnRound 9 = .ok (.isub, 1) := by decide +kernel
theorem dX6_turnRound_10 : decode cX6_turnRound 10 = .ok (.istore_n 2, 1) := by decide +kernel
theorem dX6_turnRound_11 : decode cX6_turnRound 11 = .ok (.iload_n 2, 1) := by decide +kernel
theorem dX6_turnRound_12 : decode cX6_turnRound 12 = .ok (.ifCond .lt 18, 3) := by decide +kernel
theorem dX6_turnRound_15 : decode cX6_turnRound 15 = .ok (.aload_n 0, 1) := by decide +kernel
theorem dX6_turnRound_16 : decode cX6_turnRound 16 = .ok (.aload_n 1, 1) := by decide +kernel
theorem dX6_turnRound_17 : decode cX6_turnRound 17 = .ok (.iload_n 2, 1) := by decide +kernel
theorem dX6_turnRound_18 : decode cX6_turnRound 18 = .ok (.invokevirtual 31, 3) := by decide +kernel
theorem dX6_turnRound_21 : decode cX6_turnRound 21 = .ok (.invokevirtual 22, 3) := by decide +kernel
theorem dX6_turnRound_24 : decode cX6_turnRound 24 = .ok (.iinc 2 (-1), 3) := by decide +kernel
theorem dX6_turnRound_27 : decode cX6_turnRound 27 = .ok (.goto (-16), 3) := by decide +kernel
theorem dX6_turnRound_30 : decode cX6_turnRound 30 = .ok (.return_, 1) := by decide +kernel
theorem dX6_told_0 : decode cX6_told 0 = .ok (.iconst 0, 1) := by decide +kernel
theorem dX6_told_1 : decode cX6_told 1 = .ok (.istore_n 1, 1) := by decide +kernel
theorem dX6_told_2 : decode cX6_told 2 = .ok (.aload_n 0, 1) := by decide +kernel
theorem dX6_told_3 : decode cX6_told 3 = .ok (.getfield 15, 3) := by decide +kernel
theorem dX6_told_6 : decode cX6_told 6 = .ok (.iconst 1, 1) := by decide +kernel
theorem dX6_told_7 : decode cX6_told 7 = .ok (.isub, 1) := by decide +kernel
theorem dX6_told_8 : decode cX6_told 8 = .ok (.istore_n 2, 1) := by decide +kernel
theorem dX6_told_9 : decode cX6_told 9 = .ok (.iload_n 2, 1) := by decide +kernel
theorem dX6_told_10 : decode cX6_told 10 = .ok (.ifCond .lt 20, 3) := by decide +kernel
theorem dX6_told_13 : decode cX6_told 13 = .ok (.iload_n 1, 1) := by decide +kernel
theorem dX6_told_14 : decode cX6_told 14 = .ok (.iconst 3, 1) := by decide +kernel
theorem dX6_told_15 : decode cX6_told 15 = .ok (.ishl, 1) := by decide +kernel
theorem dX6_told_16 : decode cX6_told 16 = .ok (.aload_n 0, 1) := by decide +kernel
theorem dX6_told_17 : decode cX6_told 17 = .ok (.getfield 9, 3) := by decide +kernel
theorem dX6_told_20 : decode cX6_told 20 = .ok (.iload_n 2, 1) := by decide +kernel
theorem dX6_told_21 : decode cX6_told 21 = .ok (.iaload, 1) := by decide +kernel
theorem dX6_told_22 : decode cX6_told 22 = .ok (.ior, 1) := by decide +kernel
theorem dX6_told_23 : decode cX6_told 23 = .ok (.istore_n 1, 1) := by decide +kernel
theorem dX6_told_24 : decode cX6_told 24 = .ok (.iinc 2 (-1), 3) := by decide +kernel
theorem dX6_told_27 : decode cX6_told 27 = .ok (.goto (-18), 3) := by decide +kernel
theorem dX6_told_30 : decode cX6_told 30 = .ok (.iload_n 1, 1) := by decide +kernel
theorem dX6_told_31 : decode cX6_told 31 = .ok (.ireturn, 1) := by decide +kernel
theorem dX7_init_0 : decode cX7_init 0 = .ok (.aload_n 0, 1) := by decide +kernel
theorem dX7_init_1 : decode cX7_init 1 = .ok (.invokespecial 3, 3) := by decide +kernel
theorem dX7_init_4 : decode cX7_init 4 = .ok (.aload_n 0, 1) := by decide +kernel
theorem dX7_init_5 : decode cX7_init 5 = .ok (.bipush 16, 2) := by decide +kernel
theorem dX7_init_7 : decode cX7_init 7 = .ok (.newarray .int, 2) := by decide +kernel
theorem dX7_init_9 : decode cX7_init 9 = .ok (.putfield 9, 3) := by decide +kernel
theorem dX7_init_12 : decode cX7_init 12 = .ok (.return_, 1) := by decide +kernel
theorem dX7_length_0 : decode cX7_length 0 = .ok (.aload_n 0, 1) := by decide +kernel
theorem dX7_length_1 : decode cX7_length 1 = .ok (.getfield 15, 3) := by decide +kernel
theorem dX7_length_4 : decode cX7_length 4 = .ok (.ireturn, 1) := by decide +kernel
theorem dX7_letterAt_0 : decode cX7_letterAt 0 = .ok (.iload_n 1, 1) := by decide +kernel
theorem dX7_letterAt_1 : decode cX7_letterAt 1 = .ok (.ifCond .lt 20, 3) := by decide +kernel
theorem dX7_letterAt_4 : decode cX7_letterAt 4 = .ok (.iload_n 1, 1) := by decide +kernel
theorem dX7_letterAt_5 : decode cX7_letterAt 5 = .ok (.aload_n 0, 1) := by decide +kernel
theorem dX7_letterAt_6 : decode cX7_letterAt 6 = .ok (.getfield 15, 3) := by decide +kernel
theorem dX7_letterAt_9 : decode cX7_letterAt 9 = .ok (.if_icmp .ge 12, 3) := by decide +kernel
theorem dX7_letterAt_12 : decode cX7_letterAt 12 = .ok (.aload_n 0, 1) := by decide +kernel
theorem dX7_letterAt_13 : decode cX7_letterAt 13 = .ok (.getfield 9, 3) := by decide +kernel
theorem dX7_letterAt_16 : decode cX7_letterAt 16 = .ok (.iload_n 1, 1) := by decide +kernel
theorem dX7_letterAt_17 : decode cX7_letterAt 17 = .ok (.iaload, 1) := by decide +kernel
theorem dX7_letterAt_18 : decode cX7_letterAt 18 = .ok (.goto 4, 3) := by decide +kernel
theorem dX7_letterAt_21 : decode cX7_letterAt 21 = .ok (.iconst 0, 1) := by decide +kernel
theorem dX7_letterAt_22 : decode cX7_letterAt 22 = .ok (.ireturn, 1) := by decide +kernel
theorem dX7_clear_0 : decode cX7_clear 0 = .ok (.aload_n 0, 1) := by decide +kernel
theorem dX7_clear_1 : decode cX7_clear 1 = .ok (.iconst 0, 1) := by decide +kernel
theorem dX7_clear_2 : decode cX7_clear 2 = .ok (.putfield 15, 3) := by decide +kernel
theorem dX7_clear_5 : decode cX7_clear 5 = .ok (.return_, 1) := by decide +kernel
theorem dX7_lettersIn_0 : decode cX7_lettersIn 0 = .ok (.iconst 0, 1) := by decide +kernel
theorem dX7_lettersIn_1 : decode cX7_lettersIn 1 = .ok (.istore_n 2, 1) := by decide +kernel
theorem dX7_lettersIn_2 : decode cX7_lettersIn 2 = .ok (.iconst 0, 1) := by decide +kernel
theorem dX7_lettersIn_3 : decode cX7_lettersIn 3 = .ok (.istore_n 3, 1) := by decide +kernel
theorem dX7_lettersIn_4 : decode cX7_lettersIn 4 = .ok (.iconst 0, 1) := by decide +kernel
theorem dX7_lettersIn_5 : decode cX7_lettersIn 5 = .ok (.istore 4, 2) := by decide +kernel
theorem dX7_lettersIn_7 : decode cX7_lettersIn 7 = .ok (.iload 4, 2) := by decide +kernel
theorem dX7_lettersIn_9 : decode cX7_lettersIn 9 = .ok (.bipush 8, 2) := by decide +kernel
theorem dX7_lettersIn_11 : decode cX7_lettersIn 11 = .ok (.if_icmp .ge 48, 3) := by decide +kernel
theorem dX7_lettersIn_14 : decode cX7_lettersIn 14 = .ok (.lload_n 0, 1) := by decide +kernel
theorem dX7_lettersIn_15 : decode cX7_lettersIn 15 = .ok (.iload 4, 2) := by decide +kernel
theorem dX7_lettersIn_17 : decode cX7_lettersIn 17 = .ok (.invokestatic 19, 3) := by decide +kernel
theorem dX7_lettersIn_20 : decode cX7_lettersIn 20 = .ok (.istore 5, 2) := by decide +kernel
theorem dX7_lettersIn_22 : decode cX7_lettersIn 22 = .ok (.iload 5, 2) := by decide +kernel
theorem dX7_lettersIn_24 : decode cX7_lettersIn 24 = .ok (.bipush 126, 2) := by decide +kernel
theorem dX7_lettersIn_26 : decode cX7_lettersIn 26 = .ok (.if_icmp .gt 12, 3) := by decide +kernel
theorem dX7_lettersIn_29 : decode cX7_lettersIn 29 = .ok (.iload_n 3, 1) := by decide +kernel
theorem dX7_lettersIn_30 : decode cX7_lettersIn 30 = .ok (.ifCond .eq 10, 3) := by decide +kernel
theorem dX7_lettersIn_33 : decode cX7_lettersIn 33 = .ok (.iload 5, 2) := by decide +kernel
theorem dX7_lettersIn_35 : decode cX7_lettersIn 35 = .ok (.ifCond .eq 5, 3) := by decide +kernel
theorem dX7_lettersIn_38 : decode cX7_lettersIn 38 = .ok (.iconst (-1), 1) := by decide +kernel
theorem dX7_lettersIn_39 : decode cX7_lettersIn 39 = .ok (.ireturn, 1) := by decide +kernel
theorem dX7_lettersIn_40 : decode cX7_lettersIn 40 = .ok (.iload 5, 2) := by decide +kernel
theorem dX7_lettersIn_42 : decode cX7_lettersIn 42 = .ok (.ifCond .ne 8, 3) := by decide +kernel
theorem dX7_lettersIn_45 : decode cX7_lettersIn 45 = .ok (.iconst 1, 1) := by decide +kernel
theorem dX7_lettersIn_46 : decode cX7_lettersIn 46 = .ok (.istore_n 3, 1) := by decide +kernel
theorem dX7_lettersIn_47 : decode cX7_lettersIn 47 = .ok (.goto 6, 3) := by decide +kernel
theorem dX7_lettersIn_50 : decode cX7_lettersIn 50 = .ok (.iinc 2 1, 3) := by decide +kernel
theorem dX7_lettersIn_53 : decode cX7_lettersIn 53 = .ok (.iinc 4 1, 3) := by decide +kernel
theorem dX7_lettersIn_56 : decode cX7_lettersIn 56 = .ok (.goto (-49), 3) := by decide +kernel
theorem dX7_lettersIn_59 : decode cX7_lettersIn 59 = .ok (.iload_n 2, 1) := by decide +kernel
theorem dX7_lettersIn_60 : decode cX7_lettersIn 60 = .ok (.ireturn, 1) := by decide +kernel
theorem dX7_append_0 : decode cX7_append 0 = .ok (.iconst 0, 1) := by decide +kernel
theorem dX7_append_1 : decode cX7_append 1 = .ok (.istore 4, 2) := by decide +kernel
theorem dX7_append_3 : decode cX7_append 3 = .ok (.iload 4, 2) := by decide +kernel
theorem dX7_append_5 : decode cX7_append 5 = .ok (.iload_n 3, 1) := by decide +kernel
theorem dX7_append_6 : decode cX7_append 6 = .ok (.if_icmp .ge 43, 3) := by decide +kernel
theorem dX7_append_9 : decode cX7_append 9 = .ok (.aload_n 0, 1) := by decide +kernel
theorem dX7_append_10 : decode cX7_append 10 = .ok (.getfield 15, 3) := by decide +kernel
theorem dX7_append_13 : decode cX7_append 13 = .ok (.bipush 16, 2) := by decide +kernel
theorem dX7_append_15 : decode cX7_append 15 = .ok (.if_icmp .ge 34, 3) := by decide +kernel
theorem dX7_append_18 : decode cX7_append 18 = .ok (.aload_n 0, 1) := by decide +kernel
theorem dX7_append_19 : decode cX7_append 19 = .ok (.getfield 9, 3) := by decide +kernel
theorem dX7_append_22 : decode cX7_append 22 = .ok (.aload_n 0, 1) := by decide +kernel
theorem dX7_append_23 : decode cX7_append 23 = .ok (.getfield 15, 3) := by decide +kernel
theorem dX7_append_26 : decode cX7_append 26 = .ok (.lload_n 1, 1) := by decide +kernel
theorem dX7_append_27 : decode cX7_append 27 = .ok (.iload 4, 2) := by decide +kernel
theorem dX7_append_29 : decode cX7_append 29 = .ok (.invokestatic 19, 3) := by decide +kernel
theorem dX7_append_32 : decode cX7_append 32 = .ok (.iastore, 1) := by decide +kernel
theorem dX7_append_33 : decode cX7_append 33 = .ok (.aload_n 0, 1) := by decide +kernel
theorem dX7_append_34 : decode cX7_append 34 = .ok (.dup, 1) := by decide +kernel
theorem dX7_append_35 : decode cX7_append 35 = .ok (.getfield 15, 3) := by decide +kernel
theorem dX7_append_38 : decode cX7_append 38 = .ok (.iconst 1, 1) := by decide +kernel
theorem dX7_append_39 : decode cX7_append 39 = .ok (.iadd, 1) := by decide +kernel
theorem dX7_append_40 : decode cX7_append 40 = .ok (.putfield 15, 3) := by decide +kernel
theorem dX7_append_43 : decode cX7_append 43 = .ok (.iinc 4 1, 3) := by decide +kernel
theorem dX7_append_46 : decode cX7_append 46 = .ok (.goto (-43), 3) := by decide +kernel
theorem dX7_append_49 : decode cX7_append 49 = .ok (.return_, 1) := by decide +kernel
theorem dX7_codeIn_0 : decode cX7_codeIn 0 = .ok (.lload_n 0, 1) := by decide +kernel
theorem dX7_codeIn_1 : decode cX7_codeIn 1 = .ok (.bipush 8, 2) := by decide +kernel
theorem dX7_codeIn_3 : decode cX7_codeIn 3 = .ok (.iload_n 2, 1) := by decide +kernel
theorem dX7_codeIn_4 : decode cX7_codeIn 4 = .ok (.imul, 1) := by decide +kernel
theorem dX7_codeIn_5 : decode cX7_codeIn 5 = .ok (.lushr, 1) := by decide +kernel
theorem dX7_codeIn_6 : decode cX7_codeIn 6 = .ok (.l2i, 1) := by decide +kernel
theorem dX7_codeIn_7 : decode cX7_codeIn 7 = .ok (.sipush 255, 3) := by decide +kernel
theorem dX7_codeIn_10 : decode cX7_codeIn 10 = .ok (.iand, 1) := by decide +kernel
theorem dX7_codeIn_11 : decode cX7_codeIn 11 = .ok (.ireturn, 1) := by decide +kernel
theorem dX7_firstWrong_0 : decode cX7_firstWrong 0 = .ok (.iconst 0, 1) := by decide +kernel
theorem dX7_firstWrong_1 : decode cX7_firstWrong 1 = .ok (.istore_n 1, 1) := by decide +kernel
theorem dX7_firstWrong_2 : decode cX7_firstWrong 2 = .ok (.iconst 0, 1) := by decide +kernel
theorem dX7_firstWrong_3 : decode cX7_firstWrong 3 = .ok (.istore_n 2, 1) := by decide +kernel
theorem dX7_firstWrong_4 : decode cX7_firstWrong 4 = .ok (.iload_n 2, 1) := by decide +kernel
theorem dX7_firstWrong_5 : decode cX7_firstWrong 5 = .ok (.aload_n 0, 1) := by decide +kernel
theorem dX7_firstWrong_6 : decode cX7_firstWrong 6 = .ok (.getfield 15, 3) := by decide +kernel
theorem dX7_firstWrong_9 : decode cX7_firstWrong 9 = .ok (.if_icmp .ge 27, 3) := by decide +kernel
theorem dX7_firstWrong_12 : decode cX7_firstWrong 12 = .ok (.iload_n 1, 1) := by decide +kernel
theorem dX7_firstWrong_13 : decode cX7_firstWrong 13 = .ok (.aload_n 0, 1) := by decide +kernel
theorem dX7_firstWrong_14 : decode cX7_firstWrong 14 = .ok (.getfield 9, 3) := by decide +kernel
theorem dX7_firstWrong_17 : decode cX7_firstWrong 17 = .ok (.iload_n 2, 1) := by decide +kernel
theorem dX7_firstWrong_18 : decode cX7_firstWrong 18 = .ok (.iaload, 1) := by decide +kernel
theorem dX7_firstWrong_19 : decode cX7_firstWrong 19 = .ok (.invokestatic 23, 3) := by decide +kernel
theorem dX7_firstWrong_22 : decode cX7_firstWrong 22 = .ok (.istore_n 1, 1) := by decide +kernel
theorem dX7_firstWrong_23 : decode cX7_firstWrong 23 = .ok (.iload_n 1, 1) := by decide +kernel
theorem dX7_firstWrong_24 : decode cX7_firstWrong 24 = .ok (.iconst (-1), 1) := by decide +kernel
theorem dX7_firstWrong_25 : decode cX7_firstWrong 25 = .ok (.if_icmp .ne 5, 3) := by decide +kernel
theorem dX7_firstWrong_28 : decode cX7_firstWrong 28 = .ok (.iload_n 2, 1) := by decide +kernel
theorem dX7_firstWrong_29 : decode cX7_firstWrong 29 = .ok (.ireturn, 1) := by decide +kernel
theorem dX7_firstWrong_30 : decode cX7_firstWrong 30 = .ok (.iinc 2 1, 3) := by decide +kernel
theorem dX7_firstWrong_33 : decode cX7_firstWrong 33 = .ok (.goto (-29), 3) := by decide +kernel
theorem dX7_firstWrong_36 : decode cX7_firstWrong 36 = .ok (.aload_n 0, 1) := by decide +kernel
theorem dX7_firstWrong_37 : decode cX7_firstWrong 37 = .ok (.getfield 15, 3) := by decide +kernel
theorem dX7_firstWrong_40 : decode cX7_firstWrong 40 = .ok (.ireturn, 1) := by decide +kernel
theorem dX7_isLaw_0 : decode cX7_isLaw 0 = .ok (.iconst 0, 1) := by decide +kernel
theorem dX7_isLaw_1 : decode cX7_isLaw 1 = .ok (.istore_n 1, 1) := by decide +kernel
theorem dX7_isLaw_2 : decode cX7_isLaw 2 = .ok (.iconst 0, 1) := by decide +kernel
theorem dX7_isLaw_3 : decode cX7_isLaw 3 = .ok (.istore_n 2, 1) := by decide +kernel
theorem dX7_isLaw_4 : decode cX7_isLaw 4 = .ok (.iload_n 2, 1) := by decide +kernel
theorem dX7_isLaw_5 : decode cX7_isLaw 5 = .ok (.aload_n 0, 1) := by decide +kernel
theorem dX7_isLaw_6 : decode cX7_isLaw 6 = .ok (.getfield 15, 3) := by decide +kernel
theorem dX7_isLaw_9 : decode cX7_isLaw 9 = .ok (.if_icmp .ge 25, 3) := by decide +kernel
theorem dX7_isLaw_12 : decode cX7_isLaw 12 = .ok (.iload_n 1, 1) := by decide +kernel
theorem dX7_isLaw_13 : decode cX7_isLaw 13 = .ok (.iconst (-1), 1) := by decide +kernel
theorem dX7_isLaw_14 : decode cX7_isLaw 14 = .ok (.if_icmp .eq 20, 3) := by decide +kernel
theorem dX7_isLaw_17 : decode cX7_isLaw 17 = .ok (.iload_n 1, 1) := by decide +kernel
theorem dX7_isLaw_18 : decode cX7_isLaw 18 = .ok (.aload_n 0, 1) := by decide +kernel
theorem dX7_isLaw_19 : decode cX7_isLaw 19 = .ok (.getfield 9, 3) := by decide +kernel
theorem dX7_isLaw_22 : decode cX7_isLaw 22 = .ok (.iload_n 2, 1) := by decide +kernel
theorem dX7_isLaw_23 : decode cX7_isLaw 23 = .ok (.iaload, 1) := by decide +kernel
theorem dX7_isLaw_24 : decode cX7_isLaw 24 = .ok (.invokestatic 23, 3) := by decide +kernel
theorem dX7_isLaw_27 : decode cX7_isLaw 27 = .ok (.istore_n 1, 1) := by decide +kernel
theorem dX7_isLaw_28 : decode cX7_isLaw 28 = .ok (.iinc 2 1, 3) := by decide +kernel
theorem dX7_isLaw_31 : decode cX7_isLaw 31 = .ok (.goto (-27), 3) := by decide +kernel
theorem dX7_isLaw_34 : decode cX7_isLaw 34 = .ok (.iload_n 1, 1) := by decide +kernel
theorem dX7_isLaw_35 : decode cX7_isLaw 35 = .ok (.iconst (-1), 1) := by decide +kernel
theorem dX7_isLaw_36 : decode cX7_isLaw 36 = .ok (.if_icmp .eq 12, 3) := by decide +kernel
theorem dX7_isLaw_39 : decode cX7_isLaw 39 = .ok (.iload_n 1, 1) := by decide +kernel
theorem dX7_isLaw_40 : decode cX7_isLaw 40 = .ok (.iconst 4, 1) := by decide +kernel
theorem dX7_isLaw_41 : decode cX7_isLaw 41 = .ok (.if_icmp .eq 7, 3) := by decide +kernel
theorem dX7_isLaw_44 : decode cX7_isLaw 44 = .ok (.iconst 1, 1) := by decide +kernel
theorem dX7_isLaw_45 : decode cX7_isLaw 45 = .ok (.goto 4, 3) := by decide +kernel
theorem dX7_isLaw_48 : decode cX7_isLaw 48 = .ok (.iconst 0, 1) := by decide +kernel
theorem dX7_isLaw_49 : decode cX7_isLaw 49 = .ok (.ireturn, 1) := by decide +kernel
theorem dX7_reachedBy_0 : decode cX7_reachedBy 0 = .ok (.iload_n 0, 1) := by decide +kernel
theorem dX7_reachedBy_1 : decode cX7_reachedBy 1 = .ok (.iconst 4, 1) := by decide +kernel
theorem dX7_reachedBy_2 : decode cX7_reachedBy 2 = .ok (.if_icmp .ne 20, 3) := by decide +kernel
theorem dX7_reachedBy_5 : decode cX7_reachedBy 5 = .ok (.iload_n 1, 1) := by decide +kernel
theorem dX7_reachedBy_6 : decode cX7_reachedBy 6 = .ok (.bipush 49, 2) := by decide +kernel
theorem dX7_reachedBy_8 : decode cX7_reachedBy 8 = .ok (.bipush 57, 2) := by decide +kernel
theorem dX7_reachedBy_10 : decode cX7_reachedBy 10 = .ok (.invokestatic 27, 3) := by decide +kernel
theorem dX7_reachedBy_13 : decode cX7_reachedBy 13 = .ok (.ifCond .eq 7, 3) := by decide +kernel
theorem dX7_reachedBy_16 : decode cX7_reachedBy 16 = .ok (.iconst 5, 1) := by decide +kernel
theorem dX7_reachedBy_17 : decode cX7_reachedBy 17 = .ok (.goto 4, 3) := by decide +kernel
theorem dX7_reachedBy_20 : decode cX7_reachedBy 20 = .ok (.iconst (-1), 1) := by decide +kernel
theorem dX7_reachedBy_21 : decode cX7_reachedBy 21 = .ok (.ireturn, 1) := by decide +kernel
theorem dX7_reachedBy_22 : decode cX7_reachedBy 22 = .ok (.iload_n 1, 1) := by decide +kernel
theorem dX7_reachedBy_23 : decode cX7_reachedBy 23 = .ok (.invokestatic 31, 3) := by decide +kernel
theorem dX7_reachedBy_26 : decode cX7_reachedBy 26 = .ok (.istore_n 2, 1) := by decide +kernel
theorem dX7_reachedBy_27 : decode cX7_reachedBy 27 = .ok (.iload_n 2, 1) := by decide +kernel
theorem dX7_reachedBy_28 : decode cX7_reachedBy 28 = .ok (.iload_n 0, 1) := by decide +kernel
theorem dX7_reachedBy_29 : decode cX7_reachedBy 29 = .ok (.if_icmp .le 7, 3) := by decide +kernel
theorem dX7_reachedBy_32 : decode cX7_reachedBy 32 = .ok (.iload_n 2, 1) := by decide +kernel
theorem dX7_reachedBy_33 : decode cX7_reachedBy 33 = .ok (.goto 4, 3) := by decide +kernel
theorem dX7_reachedBy_36 : decode cX7_reachedBy 36 = .ok (.iconst (-1), 1) := by decide +kernel
theorem dX7_reachedBy_37 : decode cX7_reachedBy 37 = .ok (.ireturn, 1) := by decide +kernel
theorem dX7_partOf_0 : decode cX7_partOf 0 = .ok (.iload_n 0, 1) := by decide +kernel
theorem dX7_partOf_1 : decode cX7_partOf 1 = .ok (.lookupswitch 51 #[(109, 49), (110, 43), (116, 45), (119, 47)], 43) := by decide +kernel
theorem dX7_partOf_44 : decode cX7_partOf 44 = .ok (.iconst 1, 1) := by decide +kernel
theorem dX7_partOf_45 : decode cX7_partOf 45 = .ok (.ireturn, 1) := by decide +kernel
theorem dX7_partOf_46 : decode cX7_partOf 46 = .ok (.iconst 2, 1) := by decide +kernel
theorem dX7_partOf_47 : decode cX7_partOf 47 = .ok (.ireturn, 1) := by decide +kernel
theorem dX7_partOf_48 : decode cX7_partOf 48 = .ok (.iconst 3, 1) := by decide +kernel
theorem dX7_partOf_49 : decode cX7_partOf 49 = .ok (.ireturn, 1) := by decide +kernel
theorem dX7_partOf_50 : decode cX7_partOf 50 = .ok (.iconst 4, 1) := by decide +kernel
theorem dX7_partOf_51 : decode cX7_partOf 51 = .ok (.ireturn, 1) := by decide +kernel
theorem dX7_partOf_52 : decode cX7_partOf 52 = .ok (.iconst 0, 1) := by decide +kernel
theorem dX7_partOf_53 : decode cX7_partOf 53 = .ok (.ireturn, 1) := by decide +kernel
theorem dX8_init_0 : decode cX8_init 0 = .ok (.aload_n 0, 1) := by decide +kernel
theorem dX8_init_1 : decode cX8_init 1 = .ok (.invokespecial 3, 3) := by decide +kernel
theorem dX8_init_4 : decode cX8_init 4 = .ok (.aload_n 0, 1) := by decide +kernel
theorem dX8_init_5 : decode cX8_init 5 = .ok (.bipush 7, 2) := by decide +kernel
theorem dX8_init_7 : decode cX8_init 7 = .ok (.newarray .int, 2) := by decide +kernel
theorem dX8_init_9 : decode cX8_init 9 = .ok (.putfield 9, 3) := by decide +kernel
theorem dX8_init_12 : decode cX8_init 12 = .ok (.aload_n 0, 1) := by decide +kernel
theorem dX8_init_13 : decode cX8_init 13 = .ok (.bipush 7, 2) := by decide +kernel
theorem dX8_init_15 : decode cX8_init 15 = .ok (.newarray .int, 2) := by decide +kernel
theorem dX8_init_17 : decode cX8_init 17 = .ok (.putfield 15, 3) := by decide +kernel
theorem dX8_init_20 : decode cX8_init 20 = .ok (.aload_n 0, 1) := by decide +kernel
theorem dX8_init_21 : decode cX8_init 21 = .ok (.bipush 7, 2) := by decide +kernel
theorem dX8_init_23 : decode cX8_init 23 = .ok (.newarray .int, 2) := by decide +kernel
theorem dX8_init_25 : decode cX8_init 25 = .ok (.putfield 18, 3) := by decide +kernel
theorem dX8_init_28 : decode cX8_init 28 = .ok (.aload_n 0, 1) := by decide +kernel
theorem dX8_init_29 : decode cX8_init 29 = .ok (.bipush 7, 2) := by decide +kernel
theorem dX8_init_31 : decode cX8_init 31 = .ok (.newarray .int, 2) := by decide +kernel
theorem dX8_init_33 : decode cX8_init 33 = .ok (.putfield 21, 3) := by decide +kernel
theorem dX8_init_36 : decode cX8_init 36 = .ok (.aload_n 0, 1) := by decide +kernel
theorem dX8_init_37 : decode cX8_init 37 = .ok (.bipush 7, 2) := by decide +kernel
theorem dX8_init_39 : decode cX8_init 39 = .ok (.newarray .int, 2) := by decide +kernel
theorem dX8_init_41 : decode cX8_init 41 = .ok (.putfield 24, 3) := by decide +kernel
theorem dX8_init_44 : decode cX8_init 44 = .ok (.aload_n 0, 1) := by decide +kernel
theorem dX8_init_45 : decode cX8_init 45 = .ok (.bipush 7, 2) := by decide +kernel
theorem dX8_init_47 : decode cX8_init 47 = .ok (.newarray .int, 2) := by decide +kernel
theorem dX8_init_49 : decode cX8_init 49 = .ok (.putfield 27, 3) := by decide +kernel
theorem dX8_init_52 : decode cX8_init 52 = .ok (.aload_n 0, 1) := by decide +kernel
theorem dX8_init_53 : decode cX8_init 53 = .ok (.bipush 7, 2) := by decide +kernel
theorem dX8_init_55 : decode cX8_init 55 = .ok (.newarray .int, 2) := by decide +kernel
theorem dX8_init_57 : decode cX8_init 57 = .ok (.putfield 30, 3) := by decide +kernel
theorem dX8_init_60 : decode cX8_init 60 = .ok (.iconst 0, 1) := by decide +kernel
theorem dX8_init_61 : decode cX8_init 61 = .ok (.istore_n 1, 1) := by decide +kernel
theorem dX8_init_62 : decode cX8_init 62 = .ok (.iload_n 1, 1) := by decide +kernel
theorem dX8_init_63 : decode cX8_init 63 = .ok (.bipush 7, 2) := by decide +kernel
theorem dX8_init_65 : decode cX8_init 65 = .ok (.if_icmp .ge 16, 3) := by decide +kernel
theorem dX8_init_68 : decode cX8_init 68 = .ok (.aload_n 0, 1) := by decide +kernel
theorem dX8_init_69 : decode cX8_init 69 = .ok (.getfield 30, 3) := by decide +kernel
theorem dX8_init_72 : decode cX8_init 72 = .ok (.iload_n 1, 1) := by decide +kernel
theorem dX8_init_73 : decode cX8_init 73 = .ok (.iconst 1, 1) := by decide +kernel
theorem dX8_init_74 : decode cX8_init 74 = .ok (.iastore, 1) := by decide +kernel
theorem dX8_init_75 : decode cX8_init 75 = .ok (.iinc 1 1, 3) := by decide +kernel
theorem dX8_init_78 : decode cX8_init 78 = .ok (.goto (-16), 3) := by decide +kernel
theorem dX8_init_81 : decode cX8_init 81 = .ok (.return_, 1) := by decide +kernel
theorem dX8_size_0 : decode cX8_size 0 = .ok (.aload_n 0, 1) := by decide +kernel
theorem dX8_size_1 : decode cX8_size 1 = .ok (.getfield 33, 3) := by decide +kernel
theorem dX8_size_4 : decode cX8_size 4 = .ok (.ireturn, 1) := by decide +kernel
theorem dX8_hasBlock_0 : decode cX8_hasBlock 0 = .ok (.iload_n 1, 1) := by decide +kernel
theorem dX8_hasBlock_1 : decode cX8_hasBlock 1 = .ok (.ifCond .lt 15, 3) := by decide +kernel
theorem dX8_hasBlock_4 : decode cX8_hasBlock 4 = .ok (.iload_n 1, 1) := by decide +kernel
theorem dX8_hasBlock_5 : decode cX8_hasBlock 5 = .ok (.aload_n 0, 1) := by decide +kernel
theorem dX8_hasBlock_6 : decode cX8_hasBlock 6 = .ok (.getfield 33, 3) := by decide +kernel
theorem dX8_hasBlock_9 : decode cX8_hasBlock 9 = .ok (.if_icmp .ge 7, 3) := by decide +kernel
theorem dX8_hasBlock_12 : decode cX8_hasBlock 12 = .ok (.iconst 1, 1) := by decide +kernel
theorem dX8_hasBlock_13 : decode cX8_hasBlock 13 = .ok (.goto 4, 3) := by decide +kernel
theorem dX8_hasBlock_16 : decode cX8_hasBlock 16 = .ok (.iconst 0, 1) := by decide +kernel
theorem dX8_hasBlock_17 : decode cX8_hasBlock 17 = .ok (.ireturn, 1) := by decide +kernel
theorem dX8_kindOf_0 : decode cX8_kindOf 0 = .ok (.aload_n 0, 1) := by decide +kernel
theorem dX8_kindOf_1 : decode cX8_kindOf 1 = .ok (.getfield 9, 3) := by decide +kernel
theorem dX8_kindOf_4 : decode cX8_kindOf 4 = .ok (.iload_n 1, 1) := by decide +kernel
theorem dX8_kindOf_5 : decode cX8_kindOf 5 = .ok (.iaload, 1) := by decide +kernel
theorem dX8_kindOf_6 : decode cX8_kindOf 6 = .ok (.ireturn, 1) := by decide +kernel
theorem dX8_isTwin_0 : decode cX8_isTwin 0 = .ok (.aload_n 0, 1) := by decide +kernel
theorem dX8_isTwin_1 : decode cX8_isTwin 1 = .ok (.getfield 9, 3) := by decide +kernel
theorem dX8_isTwin_4 : decode cX8_isTwin 4 = .ok (.iload_n 1, 1) := by decide +kernel
theorem dX8_isTwin_5 : decode cX8_isTwin 5 = .ok (.iaload, 1) := by decide +kernel
theorem dX8_isTwin_6 : decode cX8_isTwin 6 = .ok (.iconst 3, 1) := by decide +kernel
theorem dX8_isTwin_7 : decode cX8_isTwin 7 = .ok (.if_icmp .ne 7, 3) := by decide +kernel
theorem dX8_isTwin_10 : decode cX8_isTwin 10 = .ok (.iconst 1, 1) := by decide +kernel
theorem dX8_isTwin_11 : decode cX8_isTwin 11 = .ok (.goto 4, 3) := by decide +kernel
theorem dX8_isTwin_14 : decode cX8_isTwin 14 = .ok (.iconst 0, 1) := by decide +kernel
theorem dX8_isTwin_15 : decode cX8_isTwin 15 = .ok (.ireturn, 1) := by decide +kernel
theorem dX8_aboveOf_0 : decode cX8_aboveOf 0 = .ok (.aload_n 0, 1) := by decide +kernel
theorem dX8_aboveOf_1 : decode cX8_aboveOf 1 = .ok (.getfield 15, 3) := by decide +kernel
theorem dX8_aboveOf_4 : decode cX8_aboveOf 4 = .ok (.iload_n 1, 1) := by decide +kernel
theorem dX8_aboveOf_5 : decode cX8_aboveOf 5 = .ok (.iaload, 1) := by decide +kernel
theorem dX8_aboveOf_6 : decode cX8_aboveOf 6 = .ok (.ireturn, 1) := by decide +kernel
theorem dX8_wasOf_0 : decode cX8_wasOf 0 = .ok (.aload_n 0, 1) := by decide +kernel
theorem dX8_wasOf_1 : decode cX8_wasOf 1 = .ok (.getfield 21, 3) := by decide +kernel
theorem dX8_wasOf_4 : decode cX8_wasOf 4 = .ok (.iload_n 1, 1) := by decide +kernel
theorem dX8_wasOf_5 : decode cX8_wasOf 5 = .ok (.iaload, 1) := by decide +kernel
theorem dX8_wasOf_6 : decode cX8_wasOf 6 = .ok (.ireturn, 1) := by decide +kernel
theorem dX8_placeOf_0 : decode cX8_placeOf 0 = .ok (.aload_n 0, 1) := by decide +kernel
theorem dX8_placeOf_1 : decode cX8_placeOf 1 = .ok (.getfield 24, 3) := by decide +kernel
theorem dX8_placeOf_4 : decode cX8_placeOf 4 = .ok (.iload_n 1, 1) := by decide +kernel
theorem dX8_placeOf_5 : decode cX8_placeOf 5 = .ok (.iaload, 1) := by decide +kernel
theorem dX8_placeOf_6 : decode cX8_placeOf 6 = .ok (.ireturn, 1) := by decide +kernel
theorem dX8_blockIn_0 : decode cX8_blockIn 0 = .ok (.aload_n 0, 1) := by decide +kernel
theorem dX8_blockIn_1 : decode cX8_blockIn 1 = .ok (.getfield 27, 3) := by decide +kernel
theorem dX8_blockIn_4 : decode cX8_blockIn 4 = .ok (.iload_n 1, 1) := by decide +kernel
theorem dX8_blockIn_5 : decode cX8_blockIn 5 = .ok (.iaload, 1) := by decide +kernel
theorem dX8_blockIn_6 : decode cX8_blockIn 6 = .ok (.ireturn, 1) := by decide +kernel
theorem dX8_wheelsIn_0 : decode cX8_wheelsIn 0 = .ok (.aload_n 0, 1) := by decide +kernel
theorem dX8_wheelsIn_1 : decode cX8_wheelsIn 1 = .ok (.getfield 30, 3) := by decide +kernel
theorem dX8_wheelsIn_4 : decode cX8_wheelsIn 4 = .ok (.iload_n 1, 1) := by decide +kernel
theorem dX8_wheelsIn_5 : decode cX8_wheelsIn 5 = .ok (.iaload, 1) := by decide +kernel
theorem dX8_wheelsIn_6 : decode cX8_wheelsIn 6 = .ok (.ireturn, 1) := by decide +kernel
theorem dX8_told_0 : decode cX8_told 0 = .ok (.iload_n 2, 1) := by decide +kernel
theorem dX8_told_1 : decode cX8_told 1 = .ok (.tableswitch 59 0 3 #[31, 38, 45, 52], 31) := by decide +kernel
theorem dX8_told_32 : decode cX8_told 32 = .ok (.aload_n 0, 1) := by decide +kernel
theorem dX8_told_33 : decode cX8_told 33 = .ok (.getfield 9, 3) := by decide +kernel
theorem dX8_told_36 : decode cX8_told 36 = .ok (.iload_n 1, 1) := by decide +kernel
theorem dX8_told_37 : decode cX8_told 37 = .ok (.iaload, 1) := by decide +kernel
theorem dX8_told_38 : decode cX8_told 38 = .ok (.ireturn, 1) := by decide +kernel
theorem dX8_told_39 : decode cX8_told 39 = .ok (.aload_n 0, 1) := by decide +kernel
theorem dX8_told_40 : decode cX8_told 40 = .ok (.getfield 15, 3) := by decide +kernel
theorem dX8_told_43 : decode cX8_told 43 = .ok (.iload_n 1, 1) := by decide +kernel
theorem dX8_told_44 : decode cX8_told 44 = .ok (.iaload, 1) := by decide +kernel
theorem dX8_told_45 : decode cX8_told 45 = .ok (.ireturn, 1) := by decide +kernel
theorem dX8_told_46 : decode cX8_told 46 = .ok (.aload_n 0, 1) := by decide +kernel
theorem dX8_told_47 : decode cX8_told 47 = .ok (.getfield 18, 3) := by decide +kernel
theorem dX8_told_50 : decode cX8_told 50 = .ok (.iload_n 1, 1) := by decide +kernel
theorem dX8_told_51 : decode cX8_told 51 = .ok (.iaload, 1) := by decide +kernel
theorem dX8_told_52 : decode cX8_told 52 = .ok (.ireturn, 1) := by decide +kernel
theorem dX8_told_53 : decode cX8_told 53 = .ok (.aload_n 0, 1) := by decide +kernel
theorem dX8_told_54 : decode cX8_told 54 = .ok (.getfield 24, 3) := by decide +kernel
theorem dX8_told_57 : decode cX8_told 57 = .ok (.iload_n 1, 1) := by decide +kernel
theorem dX8_told_58 : decode cX8_told 58 = .ok (.iaload, 1) := by decide +kernel
theorem dX8_told_59 : decode cX8_told 59 = .ok (.ireturn, 1) := by decide +kernel
theorem dX8_told_60 : decode cX8_told 60 = .ok (.aload_n 0, 1) := by decide +kernel
theorem dX8_told_61 : decode cX8_told 61 = .ok (.getfield 21, 3) := by decide +kernel
theorem dX8_told_64 : decode cX8_told 64 = .ok (.iload_n 1, 1) := by decide +kernel
theorem dX8_told_65 : decode cX8_told 65 = .ok (.iaload, 1) := by decide +kernel
theorem dX8_told_66 : decode cX8_told 66 = .ok (.ireturn, 1) := by decide +kernel
theorem dX8_add_0 : decode cX8_add 0 = .ok (.aload_n 0, 1) := by decide +kernel
theorem dX8_add_1 : decode cX8_add 1 = .ok (.getfield 33, 3) := by decide +kernel
theorem dX8_add_4 : decode cX8_add 4 = .ok (.bipush 7, 2) := by decide +kernel
theorem dX8_add_6 : decode cX8_add 6 = .ok (.if_icmp .lt 6, 3) := by decide +kernel
theorem dX8_add_9 : decode cX8_add 9 = .ok (.bipush (-104), 2) := by decide +kernel
theorem dX8_add_11 : decode cX8_add 11 = .ok (.ireturn, 1) := by decide +kernel
theorem dX8_add_12 : decode cX8_add 12 = .ok (.aload_n 0, 1) := by decide +kernel
theorem dX8_add_13 : decode cX8_add 13 = .ok (.getfield 33, 3) := by decide +kernel
theorem dX8_add_16 : decode cX8_add 16 = .ok (.istore 4, 2) := by decide +kernel
theorem dX8_add_18 : decode cX8_add 18 = .ok (.aload_n 0, 1) := by decide +kernel
theorem dX8_add_19 : decode cX8_add 19 = .ok (.getfield 9, 3) := by decide +kernel
theorem dX8_add_22 : decode cX8_add 22 = .ok (.iload 4, 2) := by decide +kernel
theorem dX8_add_24 : decode cX8_add 24 = .ok (.iload_n 1, 1) := by decide +kernel
theorem dX8_add_25 : decode cX8_add 25 = .ok (.iastore, 1) := by decide +kernel
theorem dX8_add_26 : decode cX8_add 26 = .ok (.aload_n 0, 1) := by decide +kernel
theorem dX8_add_27 : decode cX8_add 27 = .ok (.getfield 15, 3) := by decide +kernel
theorem dX8_add_30 : decode cX8_add 30 = .ok (.iload 4, 2) := by decide +kernel
theorem dX8_add_32 : decode cX8_add 32 = .ok (.iload_n 2, 1) := by decide +kernel
theorem dX8_add_33 : decode cX8_add 33 = .ok (.iastore, 1) := by decide +kernel
theorem dX8_add_34 : decode cX8_add 34 = .ok (.aload_n 0, 1) := by decide +kernel
theorem dX8_add_35 : decode cX8_add 35 = .ok (.getfield 18, 3) := by decide +kernel
theorem dX8_add_38 : decode cX8_add 38 = .ok (.iload 4, 2) := by decide +kernel
theorem dX8_add_40 : decode cX8_add 40 = .ok (.iload_n 3, 1) := by decide +kernel
theorem dX8_add_41 : decode cX8_add 41 = .ok (.iastore, 1) := by decide +kernel
theorem dX8_add_42 : decode cX8_add 42 = .ok (.aload_n 0, 1) := by decide +kernel
theorem dX8_add_43 : decode cX8_add 43 = .ok (.getfield 21, 3) := by decide +kernel
theorem dX8_add_46 : decode cX8_add 46 = .ok (.iload 4, 2) := by decide +kernel
theorem dX8_add_48 : decode cX8_add 48 = .ok (.iconst (-1), 1) := by decide +kernel
theorem dX8_add_49 : decode cX8_add 49 = .ok (.iastore, 1) := by decide +kernel
theorem dX8_add_50 : decode cX8_add 50 = .ok (.aload_n 0, 1) := by decide +kernel
theorem dX8_add_51 : decode cX8_add 51 = .ok (.iload 4, 2) := by decide +kernel
theorem dX8_add_53 : decode cX8_add 53 = .ok (.iload 4, 2) := by decide +kernel
theorem dX8_add_55 : decode cX8_add 55 = .ok (.invokevirtual 37, 3) := by decide +kernel
theorem dX8_add_58 : decode cX8_add 58 = .ok (.aload_n 0, 1) := by decide +kernel
theorem dX8_add_59 : decode cX8_add 59 = .ok (.dup, 1) := by decide +kernel
theorem dX8_add_60 : decode cX8_add 60 = .ok (.getfield 33, 3) := by decide +kernel
theorem dX8_add_63 : decode cX8_add 63 = .ok (.iconst 1, 1) := by decide +kernel
theorem dX8_add_64 : decode cX8_add 64 = .ok (.iadd, 1) := by decide +kernel
theorem dX8_add_65 : decode cX8_add 65 = .ok (.putfield 33, 3) := by decide +kernel
theorem dX8_add_68 : decode cX8_add 68 = .ok (.iload 4, 2) := by decide +kernel
theorem dX8_add_70 : decode cX8_add 70 = .ok (.ireturn, 1) := by decide +kernel
theorem dX8_takeAway_0 : decode cX8_takeAway 0 = .ok (.aload_n 0, 1) := by decide +kernel
theorem dX8_takeAway_1 : decode cX8_takeAway 1 = .ok (.getfield 24, 3) := by decide +kernel
theorem dX8_takeAway_4 : decode cX8_takeAway 4 = .ok (.iload_n 1, 1) := by decide +kernel
theorem dX8_takeAway_5 : decode cX8_takeAway 5 = .ok (.iaload, 1) := by decide +kernel
theorem dX8_takeAway_6 : decode cX8_takeAway 6 = .ok (.istore_n 2, 1) := by decide +kernel
theorem dX8_takeAway_7 : decode cX8_takeAway 7 = .ok (.iload_n 2, 1) := by decide +kernel
theorem dX8_takeAway_8 : decode cX8_takeAway 8 = .ok (.iconst 1, 1) := by decide +kernel
theorem dX8_takeAway_9 : decode cX8_takeAway 9 = .ok (.iadd, 1) := by decide +kernel
theorem dX8_takeAway_10 : decode cX8_takeAway 10 = .ok (.aload_n 0, 1) := by decide +kernel
theorem dX8_takeAway_11 : decode cX8_takeAway 11 = .ok (.getfield 33, 3) := by decide +kernel
theorem dX8_takeAway_14 : decode cX8_takeAway 14 = .ok (.if_icmp .ge 22, 3) := by decide +kernel
theorem dX8_takeAway_17 : decode cX8_takeAway 17 = .ok (.aload_n 0, 1) := by decide +kernel
theorem dX8_takeAway_18 : decode cX8_takeAway 18 = .ok (.aload_n 0, 1) := by decide +kernel
theorem dX8_takeAway_19 : decode cX8_takeAway 19 = .ok (.getfield 27, 3) := by decide +kernel
theorem dX8_takeAway_22 : decode cX8_takeAway 22 = .ok (.iload_n 2, 1) := by decide +kernel
theorem dX8_takeAway_23 : decode cX8_takeAway 23 = .ok (.iconst 1, 1) := by decide +kernel
theorem dX8_takeAway_24 : decode cX8_takeAway 24 = .ok (.iadd, 1) := by decide +kernel
theorem dX8_takeAway_25 : decode cX8_takeAway 25 = .ok (.iaload, 1) := by decide +kernel
theorem dX8_takeAway_26 : decode cX8_takeAway 26 = .ok (.iload_n 2, 1) := by decide +kernel
theorem dX8_takeAway_27 : decode cX8_takeAway 27 = .ok (.invokevirtual 37, 3) := by decide +kernel
theorem dX8_takeAway_30 : decode cX8_takeAway 30 = .ok (.iinc 2 1, 3) := by decide +kernel
theorem dX8_takeAway_33 : decode cX8_takeAway 33 = .ok (.goto (-26), 3) := by decide +kernel
theorem dX8_takeAway_36 : decode cX8_takeAway 36 = .ok (.iload_n 1, 1) := by decide +kernel
theorem dX8_takeAway_37 : decode cX8_takeAway 37 = .ok (.istore_n 2, 1) := by decide +kernel
theorem dX8_takeAway_38 : decode cX8_takeAway 38 = .ok (.iload_n 2, 1) := by decide +kernel
theorem dX8_takeAway_39 : decode cX8_takeAway 39 = .ok (.iconst 1, 1) := by decide +kernel
theorem dX8_takeAway_40 : decode cX8_takeAway 40 = .ok (.iadd, 1) := by decide +kernel
theorem dX8_takeAway_41 : decode cX8_takeAway 41 = .ok (.aload_n 0, 1) := by decide +kernel
theorem dX8_takeAway_42 : decode cX8_takeAway 42 = .ok (.getfield 33, 3) := by decide +kernel
theorem dX8_takeAway_45 : decode cX8_takeAway 45 = .ok (.if_icmp .ge 78, 3) := by decide +kernel
theorem dX8_takeAway_48 : decode cX8_takeAway 48 = .ok (.aload_n 0, 1) := by decide +kernel
theorem dX8_takeAway_49 : decode cX8_takeAway 49 = .ok (.getfield 9, 3) := by decide +kernel
theorem dX8_takeAway_52 : decode cX8_takeAway 52 = .ok (.iload_n 2, 1) := by decide +kernel
theorem dX8_takeAway_53 : decode cX8_takeAway 53 = .ok (.aload_n 0, 1) := by decide +kernel
theorem dX8_takeAway_54 : decode cX8_takeAway 54 = .ok (.getfield 9, 3) := by decide +kernel
theorem dX8_takeAway_57 : decode cX8_takeAway 57 = .ok (.iload_n 2, 1) := by decide +kernel
theorem dX8_takeAway_58 : decode cX8_takeAway 58 = .ok (.iconst 1, 1) := by decide +kernel
theorem dX8_takeAway_59 : decode cX8_takeAway 59 = .ok (.iadd, 1) := by decide +kernel
theorem dX8_takeAway_60 : decode cX8_takeAway 60 = .ok (.iaload, 1) := by decide +kernel
theorem dX8_takeAway_61 : decode cX8_takeAway 61 = .ok (.iastore, 1) := by decide +kernel
theorem dX8_takeAway_62 : decode cX8_takeAway 62 = .ok (.aload_n 0, 1) := by decide +kernel
theorem dX8_takeAway_63 : decode cX8_takeAway 63 = .ok (.getfield 15, 3) := by decide +kernel
theorem dX8_takeAway_66 : decode cX8_takeAway 66 = .ok (.iload_n 2, 1) := by decide +kernel
theorem dX8_takeAway_67 : decode cX8_takeAway 67 = .ok (.aload_n 0, 1) := by decide +kernel
theorem dX8_takeAway_68 : decode cX8_takeAway 68 = .ok (.getfield 15, 3) := by decide +kernel
theorem dX8_takeAway_71 : decode cX8_takeAway 71 = .ok (.iload_n 2, 1) := by decide +kernel
theorem dX8_takeAway_72 : decode cX8_takeAway 72 = .ok (.iconst 1, 1) := by decide +kernel
theorem dX8_takeAway_73 : decode cX8_takeAway 73 = .ok (.iadd, 1) := by decide +kernel
theorem dX8_takeAway_74 : decode cX8_takeAway 74 = .ok (.iaload, 1) := by decide +kernel
theorem dX8_takeAway_75 : decode cX8_takeAway 75 = .ok (.iastore, 1) := by decide +kernel
theorem dX8_takeAway_76 : decode cX8_takeAway 76 = .ok (.aload_n 0, 1) := by decide +kernel
theorem dX8_takeAway_77 : decode cX8_takeAway 77 = .ok (.getfield 18, 3) := by decide +kernel
theorem dX8_takeAway_80 : decode cX8_takeAway 80 = .ok (.iload_n 2, 1) := by decide +kernel
theorem dX8_takeAway_81 : decode cX8_takeAway 81 = .ok (.aload_n 0, 1) := by decide +kernel
theorem dX8_takeAway_82 : decode cX8_takeAway 82 = .ok (.getfield 18, 3) := by decide +kernel
theorem dX8_takeAway_85 : decode cX8_takeAway 85 = .ok (.iload_n 2, 1) := by decide +kernel
theorem dX8_takeAway_86 : decode cX8_takeAway 86 = .ok (.iconst 1, 1) := by decide +kernel
theorem dX8_takeAway_87 : decode cX8_takeAway 87 = .ok (.iadd, 1) := by decide +kernel
theorem dX8_takeAway_88 : decode cX8_takeAway 88 = .ok (.iaload, 1) := by decide +kernel
theorem dX8_takeAway_89 : decode cX8_takeAway 89 = .ok (.iastore, 1) := by decide +kernel
theorem dX8_takeAway_90 : decode cX8_takeAway 90 = .ok (.aload_n 0, 1) := by decide +kernel
theorem dX8_takeAway_91 : decode cX8_takeAway 91 = .ok (.getfield 21, 3) := by decide +kernel
theorem dX8_takeAway_94 : decode cX8_takeAway 94 = .ok (.iload_n 2, 1) := by decide +kernel
theorem dX8_takeAway_95 : decode cX8_takeAway 95 = .ok (.aload_n 0, 1) := by decide +kernel
theorem dX8_takeAway_96 : decode cX8_takeAway 96 = .ok (.getfield 21, 3) := by decide +kernel
theorem dX8_takeAway_99 : decode cX8_takeAway 99 = .ok (.iload_n 2, 1) := by decide +kernel
theorem dX8_takeAway_100 : decode cX8_takeAway 100 = .ok (.iconst 1, 1) := by decide +kernel
theorem dX8_takeAway_101 : decode cX8_takeAway 101 = .ok (.iadd, 1) := by decide +kernel
theorem dX8_takeAway_102 : decode cX8_takeAway 102 = .ok (.iaload, 1) := by decide +kernel
theorem dX8_takeAway_103 : decode cX8_takeAway 103 = .ok (.iastore, 1) := by decide +kernel
theorem dX8_takeAway_104 : decode cX8_takeAway 104 = .ok (.aload_n 0, 1) := by decide +kernel
theorem dX8_takeAway_105 : decode cX8_takeAway 105 = .ok (.iload_n 2, 1) := by decide +kernel
theorem dX8_takeAway_106 : decode cX8_takeAway 106 = .ok (.aload_n 0, 1) := by decide +kernel
theorem dX8_takeAway_107 : decode cX8_takeAway 107 = .ok (.getfield 24, 3) := by decide +kernel
theorem dX8_takeAway_110 : decode cX8_takeAway 110 = .ok (.iload_n 2, 1) := by decide +kernel
theorem dX8_takeAway_111 : decode cX8_takeAway 111 = .ok (.iconst 1, 1) := by decide +kernel
theorem dX8_takeAway_112 : decode cX8_takeAway 112 = .ok (.iadd, 1) := by decide +kernel
theorem dX8_takeAway_113 : decode cX8_takeAway 113 = .ok (.iaload, 1) := by decide +kernel
theorem dX8_takeAway_114 : decode cX8_takeAway 114 = .ok (.invokevirtual 37, 3) := by decide +kernel
theorem dX8_takeAway_117 : decode cX8_takeAway 117 = .ok (.iinc 2 1, 3) := by decide +kernel
theorem dX8_takeAway_120 : decode cX8_takeAway 120 = .ok (.goto (-82), 3) := by decide +kernel
theorem dX8_takeAway_123 : decode cX8_takeAway 123 = .ok (.aload_n 0, 1) := by decide +kernel
theorem dX8_takeAway_124 : decode cX8_takeAway 124 = .ok (.dup, 1) := by decide +kernel
theorem dX8_takeAway_125 : decode cX8_takeAway 125 = .ok (.getfield 33, 3) := by decide +kernel
theorem dX8_takeAway_128 : decode cX8_takeAway 128 = .ok (.iconst 1, 1) := by decide +kernel
theorem dX8_takeAway_129 : decode cX8_takeAway 129 = .ok (.isub, 1) := by decide +kernel
theorem dX8_takeAway_130 : decode cX8_takeAway 130 = .ok (.putfield 33, 3) := by decide +kernel
theorem dX8_takeAway_133 : decode cX8_takeAway 133 = .ok (.return_, 1) := by decide +kernel
theorem dX8_copyFrom_0 : decode cX8_copyFrom 0 = .ok (.aload_n 1, 1) := by decide +kernel
theorem dX8_copyFrom_1 : decode cX8_copyFrom 1 = .ok (.getfield 9, 3) := by decide +kernel
theorem dX8_copyFrom_4 : decode cX8_copyFrom 4 = .ok (.iconst 0, 1) := by decide +kernel
theorem dX8_copyFrom_5 : decode cX8_copyFrom 5 = .ok (.aload_n 0, 1) := by decide +kernel
theorem dX8_copyFrom_6 : decode cX8_copyFrom 6 = .ok (.getfield 9, 3) := by decide +kernel
theorem dX8_copyFrom_9 : decode cX8_copyFrom 9 = .ok (.iconst 0, 1) := by decide +kernel
theorem dX8_copyFrom_10 : decode cX8_copyFrom 10 = .ok (.bipush 7, 2) := by decide +kernel
theorem dX8_copyFrom_12 : decode cX8_copyFrom 12 = .ok (.invokestatic 41, 3) := by decide +kernel
theorem dX8_copyFrom_15 : decode cX8_copyFrom 15 = .ok (.aload_n 1, 1) := by decide +kernel
theorem dX8_copyFrom_16 : decode cX8_copyFrom 16 = .ok (.getfield 15, 3) := by decide +kernel
theorem dX8_copyFrom_19 : decode cX8_copyFrom 19 = .ok (.iconst 0, 1) := by decide +kernel
theorem dX8_copyFrom_20 : decode cX8_copyFrom 20 = .ok (.aload_n 0, 1) := by decide +kernel
theorem dX8_copyFrom_21 : decode cX8_copyFrom 21 = .ok (.getfield 15, 3) := by decide +kernel
theorem dX8_copyFrom_24 : decode cX8_copyFrom 24 = .ok (.iconst 0, 1) := by decide +kernel
theorem dX8_copyFrom_25 : decode cX8_copyFrom 25 = .ok (.bipush 7, 2) := by decide +kernel
theorem dX8_copyFrom_27 : decode cX8_copyFrom 27 = .ok (.invokestatic 41, 3) := by decide +kernel
theorem dX8_copyFrom_30 : decode cX8_copyFrom 30 = .ok (.aload_n 1, 1) := by decide +kernel
theorem dX8_copyFrom_31 : decode cX8_copyFrom 31 = .ok (.getfield 18, 3) := by decide +kernel
theorem dX8_copyFrom_34 : decode cX8_copyFrom 34 = .ok (.iconst 0, 1) := by decide +kernel
theorem dX8_copyFrom_35 : decode cX8_copyFrom 35 = .ok (.aload_n 0, 1) := by decide +kernel
theorem dX8_copyFrom_36 : decode cX8_copyFrom 36 = .ok (.getfield 18, 3) := by decide +kernel
theorem dX8_copyFrom_39 : decode cX8_copyFrom 39 = .ok (.iconst 0, 1) := by decide +kernel
theorem dX8_copyFrom_40 : decode cX8_copyFrom 40 = .ok (.bipush 7, 2) := by decide +kernel
theorem dX8_copyFrom_42 : decode cX8_copyFrom 42 = .ok (.invokestatic 41, 3) := by decide +kernel
theorem dX8_copyFrom_45 : decode cX8_copyFrom 45 = .ok (.aload_n 1, 1) := by decide +kernel
theorem dX8_copyFrom_46 : decode cX8_copyFrom 46 = .ok (.getfield 21, 3) := by decide +kernel
theorem dX8_copyFrom_49 : decode cX8_copyFrom 49 = .ok (.iconst 0, 1) := by decide +kernel
theorem dX8_copyFrom_50 : decode cX8_copyFrom 50 = .ok (.aload_n 0, 1) := by decide +kernel
theorem dX8_copyFrom_51 : decode cX8_copyFrom 51 = .ok (.getfield 21, 3) := by decide +kernel
theorem dX8_copyFrom_54 : decode cX8_copyFrom 54 = .ok (.iconst 0, 1) := by decide +kernel
theorem dX8_copyFrom_55 : decode cX8_copyFrom 55 = .ok (.bipush 7, 2) := by decide +kernel
theorem dX8_copyFrom_57 : decode cX8_copyFrom 57 = .ok (.invokestatic 41, 3) := by decide +kernel
theorem dX8_copyFrom_60 : decode cX8_copyFrom 60 = .ok (.aload_n 1, 1) := by decide +kernel
theorem dX8_copyFrom_61 : decode cX8_copyFrom 61 = .ok (.getfield 24, 3) := by decide +kernel
theorem dX8_copyFrom_64 : decode cX8_copyFrom 64 = .ok (.iconst 0, 1) := by decide +kernel
theorem dX8_copyFrom_65 : decode cX8_copyFrom 65 = .ok (.aload_n 0, 1) := by decide +kernel
theorem dX8_copyFrom_66 : decode cX8_copyFrom 66 = .ok (.getfield 24, 3) := by decide +kernel
theorem dX8_copyFrom_69 : decode cX8_copyFrom 69 = .ok (.iconst 0, 1) := by decide +kernel
theorem dX8_copyFrom_70 : decode cX8_copyFrom 70 = .ok (.bipush 7, 2) := by decide +kernel
theorem dX8_copyFrom_72 : decode cX8_copyFrom 72 = .ok (.invokestatic 41, 3) := by decide +kernel
theorem dX8_copyFrom_75 : decode cX8_copyFrom 75 = .ok (.aload_n 1, 1) := by decide +kernel
theorem dX8_copyFrom_76 : decode cX8_copyFrom 76 = .ok (.getfield 27, 3) := by decide +kernel
theorem dX8_copyFrom_79 : decode cX8_copyFrom 79 = .ok (.iconst 0, 1) := by decide +kernel
theorem dX8_copyFrom_80 : decode cX8_copyFrom 80 = .ok (.aload_n 0, 1) := by decide +kernel
theorem dX8_copyFrom_81 : decode cX8_copyFrom 81 = .ok (.getfield 27, 3) := by decide +kernel
theorem dX8_copyFrom_84 : decode cX8_copyFrom 84 = .ok (.iconst 0, 1) := by decide +kernel
theorem dX8_copyFrom_85 : decode cX8_copyFrom 85 = .ok (.bipush 7, 2) := by decide +kernel
theorem dX8_copyFrom_87 : decode cX8_copyFrom 87 = .ok (.invokestatic 41, 3) := by decide +kernel
theorem dX8_copyFrom_90 : decode cX8_copyFrom 90 = .ok (.aload_n 1, 1) := by decide +kernel
theorem dX8_copyFrom_91 : decode cX8_copyFrom 91 = .ok (.getfield 30, 3) := by decide +kernel
theorem dX8_copyFrom_94 : decode cX8_copyFrom 94 = .ok (.iconst 0, 1) := by decide +kernel
theorem dX8_copyFrom_95 : decode cX8_copyFrom 95 = .ok (.aload_n 0, 1) := by decide +kernel
theorem dX8_copyFrom_96 : decode cX8_copyFrom 96 = .ok (.getfield 30, 3) := by decide +kernel
theorem dX8_copyFrom_99 : decode cX8_copyFrom 99 = .ok (.iconst 0, 1) := by decide +kernel
theorem dX8_copyFrom_100 : decode cX8_copyFrom 100 = .ok (.bipush 7, 2) := by decide +kernel
theorem dX8_copyFrom_102 : decode cX8_copyFrom 102 = .ok (.invokestatic 41, 3) := by decide +kernel
theorem dX8_copyFrom_105 : decode cX8_copyFrom 105 = .ok (.aload_n 0, 1) := by decide +kernel
theorem dX8_copyFrom_106 : decode cX8_copyFrom 106 = .ok (.aload_n 1, 1) := by decide +kernel
theorem dX8_copyFrom_107 : decode cX8_copyFrom 107 = .ok (.getfield 33, 3) := by decide +kernel
theorem dX8_copyFrom_110 : decode cX8_copyFrom 110 = .ok (.putfield 33, 3) := by decide +kernel
theorem dX8_copyFrom_113 : decode cX8_copyFrom 113 = .ok (.return_, 1) := by decide +kernel
theorem dX8_put_0 : decode cX8_put 0 = .ok (.aload_n 0, 1) := by decide +kernel
theorem dX8_put_1 : decode cX8_put 1 = .ok (.getfield 24, 3) := by decide +kernel
theorem dX8_put_4 : decode cX8_put 4 = .ok (.iload_n 1, 1) := by decide +kernel
theorem dX8_put_5 : decode cX8_put 5 = .ok (.iload_n 2, 1) := by decide +kernel
theorem dX8_put_6 : decode cX8_put 6 = .ok (.iastore, 1) := by decide +kernel
theorem dX8_put_7 : decode cX8_put 7 = .ok (.aload_n 0, 1) := by decide +kernel
theorem dX8_put_8 : decode cX8_put 8 = .ok (.getfield 27, 3) := by decide +kernel
theorem dX8_put_11 : decode cX8_put 11 = .ok (.iload_n 2, 1) := by decide +kernel
theorem dX8_put_12 : decode cX8_put 12 = .ok (.iload_n 1, 1) := by decide +kernel
theorem dX8_put_13 : decode cX8_put 13 = .ok (.iastore, 1) := by decide +kernel
theorem dX8_put_14 : decode cX8_put 14 = .ok (.return_, 1) := by decide +kernel
theorem dX8_exchange_0 : decode cX8_exchange 0 = .ok (.aload_n 0, 1) := by decide +kernel
theorem dX8_exchange_1 : decode cX8_exchange 1 = .ok (.getfield 27, 3) := by decide +kernel
theorem dX8_exchange_4 : decode cX8_exchange 4 = .ok (.iload_n 1, 1) := by decide +kernel
theorem dX8_exchange_5 : decode cX8_exchange 5 = .ok (.iaload, 1) := by decide +kernel
theorem dX8_exchange_6 : decode cX8_exchange 6 = .ok (.istore_n 3, 1) := by decide +kernel
theorem dX8_exchange_7 : decode cX8_exchange 7 = .ok (.aload_n 0, 1) := by decide +kernel
theorem dX8_exchange_8 : decode cX8_exchange 8 = .ok (.aload_n 0, 1) := by decide +kernel
theorem dX8_exchange_9 : decode cX8_exchange 9 = .ok (.getfield 27, 3) := by decide +kernel
theorem dX8_exchange_12 : decode cX8_exchange 12 = .ok (.iload_n 2, 1) := by decide +kernel
theorem dX8_exchange_13 : decode cX8_exchange 13 = .ok (.iaload, 1) := by decide +kernel
theorem dX8_exchange_14 : decode cX8_exchange 14 = .ok (.iload_n 1, 1) := by decide +kernel
theorem dX8_exchange_15 : decode cX8_exchange 15 = .ok (.invokevirtual 37, 3) := by decide +kernel
theorem dX8_exchange_18 : decode cX8_exchange 18 = .ok (.aload_n 0, 1) := by decide +kernel
theorem dX8_exchange_19 : decode cX8_exchange 19 = .ok (.iload_n 3, 1) := by decide +kernel
theorem dX8_exchange_20 : decode cX8_exchange 20 = .ok (.iload_n 2, 1) := by decide +kernel
theorem dX8_exchange_21 : decode cX8_exchange 21 = .ok (.invokevirtual 37, 3) := by decide +kernel
theorem dX8_exchange_24 : decode cX8_exchange 24 = .ok (.return_, 1) := by decide +kernel
theorem dX8_putDown_0 : decode cX8_putDown 0 = .ok (.iconst 0, 1) := by decide +kernel
theorem dX8_putDown_1 : decode cX8_putDown 1 = .ok (.istore_n 3, 1) := by decide +kernel
theorem dX8_putDown_2 : decode cX8_putDown 2 = .ok (.iload_n 3, 1) := by decide +kernel
theorem dX8_putDown_3 : decode cX8_putDown 3 = .ok (.aload_n 0, 1) := by decide +kernel
theorem dX8_putDown_4 : decode cX8_putDown 4 = .ok (.getfield 33, 3) := by decide +kernel
theorem dX8_putDown_7 : decode cX8_putDown 7 = .ok (.if_icmp .ge 44, 3) := by decide +kernel
theorem dX8_putDown_10 : decode cX8_putDown 10 = .ok (.aload_n 1, 1) := by decide +kernel
theorem dX8_putDown_11 : decode cX8_putDown 11 = .ok (.iload_n 3, 1) := by decide +kernel
theorem dX8_putDown_12 : decode cX8_putDown 12 = .ok (.invokevirtual 47, 3) := by decide +kernel
theorem dX8_putDown_15 : decode cX8_putDown 15 = .ok (.istore 4, 2) := by decide +kernel
theorem dX8_putDown_17 : decode cX8_putDown 17 = .ok (.aload_n 0, 1) := by decide +kernel
theorem dX8_putDown_18 : decode cX8_putDown 18 = .ok (.iload 4, 2) := by decide +kernel
theorem dX8_putDown_20 : decode cX8_putDown 20 = .ok (.iload_n 3, 1) := by decide +kernel
theorem dX8_putDown_21 : decode cX8_putDown 21 = .ok (.invokevirtual 37, 3) := by decide +kernel
theorem dX8_putDown_24 : decode cX8_putDown 24 = .ok (.iload_n 2, 1) := by decide +kernel
theorem dX8_putDown_25 : decode cX8_putDown 25 = .ok (.ifCond .eq 20, 3) := by decide +kernel
theorem dX8_putDown_28 : decode cX8_putDown 28 = .ok (.aload_n 0, 1) := by decide +kernel
theorem dX8_putDown_29 : decode cX8_putDown 29 = .ok (.getfield 9, 3) := by decide +kernel
theorem dX8_putDown_32 : decode cX8_putDown 32 = .ok (.iload 4, 2) := by decide +kernel
theorem dX8_putDown_34 : decode cX8_putDown 34 = .ok (.iaload, 1) := by decide +kernel
theorem dX8_putDown_35 : decode cX8_putDown 35 = .ok (.iconst 4, 1) := by decide +kernel
theorem dX8_putDown_36 : decode cX8_putDown 36 = .ok (.if_icmp .eq 9, 3) := by decide +kernel
theorem dX8_putDown_39 : decode cX8_putDown 39 = .ok (.aload_n 0, 1) := by decide +kernel
theorem dX8_putDown_40 : decode cX8_putDown 40 = .ok (.iload 4, 2) := by decide +kernel
theorem dX8_putDown_42 : decode cX8_putDown 42 = .ok (.invokevirtual 53, 3) := by decide +kernel
theorem dX8_putDown_45 : decode cX8_putDown 45 = .ok (.iinc 3 1, 3) := by decide +kernel
theorem dX8_putDown_48 : decode cX8_putDown 48 = .ok (.goto (-46), 3) := by decide +kernel
theorem dX8_putDown_51 : decode cX8_putDown 51 = .ok (.return_, 1) := by decide +kernel
theorem dX8_turnOver_0 : decode cX8_turnOver 0 = .ok (.aload_n 0, 1) := by decide +kernel
theorem dX8_turnOver_1 : decode cX8_turnOver 1 = .ok (.getfield 15, 3) := by decide +kernel
theorem dX8_turnOver_4 : decode cX8_turnOver 4 = .ok (.iload_n 1, 1) := by decide +kernel
theorem dX8_turnOver_5 : decode cX8_turnOver 5 = .ok (.iaload, 1) := by decide +kernel
theorem dX8_turnOver_6 : decode cX8_turnOver 6 = .ok (.istore_n 2, 1) := by decide +kernel
theorem dX8_turnOver_7 : decode cX8_turnOver 7 = .ok (.aload_n 0, 1) := by decide +kernel
theorem dX8_turnOver_8 : decode cX8_turnOver 8 = .ok (.getfield 15, 3) := by decide +kernel
theorem dX8_turnOver_11 : decode cX8_turnOver 11 = .ok (.iload_n 1, 1) := by decide +kernel
theorem dX8_turnOver_12 : decode cX8_turnOver 12 = .ok (.aload_n 0, 1) := by decide +kernel
theorem dX8_turnOver_13 : decode cX8_turnOver 13 = .ok (.getfield 18, 3) := by decide +kernel
theorem dX8_turnOver_16 : decode cX8_turnOver 16 = .ok (.iload_n 1, 1) := by decide +kernel
theorem dX8_turnOver_17 : decode cX8_turnOver 17 = .ok (.iaload, 1) := by decide +kernel
theorem dX8_turnOver_18 : decode cX8_turnOver 18 = .ok (.iastore, 1) := by decide +kernel
theorem dX8_turnOver_19 : decode cX8_turnOver 19 = .ok (.aload_n 0, 1) := by decide +kernel
theorem dX8_turnOver_20 : decode cX8_turnOver 20 = .ok (.getfield 18, 3) := by decide +kernel
theorem dX8_turnOver_23 : decode cX8_turnOver 23 = .ok (.iload_n 1, 1) := by decide +kernel
theorem dX8_turnOver_24 : decode cX8_turnOver 24 = .ok (.iload_n 2, 1) := by decide +kernel
theorem dX8_turnOver_25 : decode cX8_turnOver 25 = .ok (.iastore, 1) := by decide +kernel
theorem dX8_turnOver_26 : decode cX8_turnOver 26 = .ok (.return_, 1) := by decide +kernel
theorem dX8_changeWheels_0 : decode cX8_changeWheels 0 = .ok (.aload_n 0, 1) := by decide +kernel
theorem dX8_changeWheels_1 : decode cX8_changeWheels 1 = .ok (.getfield 30, 3) := by decide +kernel
theorem dX8_changeWheels_4 : decode cX8_changeWheels 4 = .ok (.iload_n 1, 1) := by decide +kernel
theorem dX8_changeWheels_5 : decode cX8_changeWheels 5 = .ok (.iaload, 1) := by decide +kernel
theorem dX8_changeWheels_6 : decode cX8_changeWheels 6 = .ok (.istore_n 3, 1) := by decide +kernel
theorem dX8_changeWheels_7 : decode cX8_changeWheels 7 = .ok (.aload_n 0, 1) := by decide +kernel
theorem dX8_changeWheels_8 : decode cX8_changeWheels 8 = .ok (.getfield 30, 3) := by decide +kernel
theorem dX8_changeWheels_11 : decode cX8_changeWheels 11 = .ok (.iload_n 1, 1) := by decide +kernel
theorem dX8_changeWheels_12 : decode cX8_changeWheels 12 = .ok (.iload_n 2, 1) := by decide +kernel
theorem dX8_changeWheels_13 : decode cX8_changeWheels 13 = .ok (.iastore, 1) := by decide +kernel
theorem dX8_changeWheels_14 : decode cX8_changeWheels 14 = .ok (.iload_n 3, 1) := by decide +kernel
theorem dX8_changeWheels_15 : decode cX8_changeWheels 15 = .ok (.ireturn, 1) := by decide +kernel
theorem dX8_changeWas_0 : decode cX8_changeWas 0 = .ok (.aload_n 0, 1) := by decide +kernel
theorem dX8_changeWas_1 : decode cX8_changeWas 1 = .ok (.getfield 21, 3) := by decide +kernel
theorem dX8_changeWas_4 : decode cX8_changeWas 4 = .ok (.iload_n 1, 1) := by decide +kernel
theorem dX8_changeWas_5 : decode cX8_changeWas 5 = .ok (.iaload, 1) := by decide +kernel
theorem dX8_changeWas_6 : decode cX8_changeWas 6 = .ok (.istore_n 3, 1) := by decide +kernel
theorem dX8_changeWas_7 : decode cX8_changeWas 7 = .ok (.aload_n 0, 1) := by decide +kernel
theorem dX8_changeWas_8 : decode cX8_changeWas 8 = .ok (.getfield 21, 3) := by decide +kernel
theorem dX8_changeWas_11 : decode cX8_changeWas 11 = .ok (.iload_n 1, 1) := by decide +kernel
theorem dX8_changeWas_12 : decode cX8_changeWas 12 = .ok (.iload_n 2, 1) := by decide +kernel
theorem dX8_changeWas_13 : decode cX8_changeWas 13 = .ok (.iastore, 1) := by decide +kernel
theorem dX8_changeWas_14 : decode cX8_changeWas 14 = .ok (.iload_n 3, 1) := by decide +kernel
theorem dX8_changeWas_15 : decode cX8_changeWas 15 = .ok (.ireturn, 1) := by decide +kernel
theorem dX8_lieTogether_0 : decode cX8_lieTogether 0 = .ok (.aload_n 0, 1) := by decide +kernel
theorem dX8_lieTogether_1 : decode cX8_lieTogether 1 = .ok (.getfield 24, 3) := by decide +kernel
theorem dX8_lieTogether_4 : decode cX8_lieTogether 4 = .ok (.iload_n 1, 1) := by decide +kernel
theorem dX8_lieTogether_5 : decode cX8_lieTogether 5 = .ok (.iaload, 1) := by decide +kernel
theorem dX8_lieTogether_6 : decode cX8_lieTogether 6 = .ok (.aload_n 0, 1) := by decide +kernel
theorem dX8_lieTogether_7 : decode cX8_lieTogether 7 = .ok (.getfield 24, 3) := by decide +kernel
theorem dX8_lieTogether_10 : decode cX8_lieTogether 10 = .ok (.iload_n 2, 1) := by decide +kernel
theorem dX8_lieTogether_11 : decode cX8_lieTogether 11 = .ok (.iaload, 1) := by decide +kernel
theorem dX8_lieTogether_12 : decode cX8_lieTogether 12 = .ok (.isub, 1) := by decide +kernel
theorem dX8_lieTogether_13 : decode cX8_lieTogether 13 = .ok (.invokestatic 57, 3) := by decide +kernel
theorem dX8_lieTogether_16 : decode cX8_lieTogether 16 = .ok (.iconst 1, 1) := by decide +kernel
theorem dX8_lieTogether_17 : decode cX8_lieTogether 17 = .ok (.if_icmp .ne 7, 3) := by decide +kernel
theorem dX8_lieTogether_20 : decode cX8_lieTogether 20 = .ok (.iconst 1, 1) := by decide +kernel
theorem dX8_lieTogether_21 : decode cX8_lieTogether 21 = .ok (.goto 4, 3) := by decide +kernel
theorem dX8_lieTogether_24 : decode cX8_lieTogether 24 = .ok (.iconst 0, 1) := by decide +kernel
theorem dX8_lieTogether_25 : decode cX8_lieTogether 25 = .ok (.ireturn, 1) := by decide +kernel
theorem dX8_yearlyWear_0 : decode cX8_yearlyWear 0 = .ok (.aload_n 0, 1) := by decide +kernel
theorem dX8_yearlyWear_1 : decode cX8_yearlyWear 1 = .ok (.getfield 30, 3) := by decide +kernel
theorem dX8_yearlyWear_4 : decode cX8_yearlyWear 4 = .ok (.iload_n 2, 1) := by decide +kernel
theorem dX8_yearlyWear_5 : decode cX8_yearlyWear 5 = .ok (.iaload, 1) := by decide +kernel
theorem dX8_yearlyWear_6 : decode cX8_yearlyWear 6 = .ok (.istore_n 3, 1) := by decide +kernel
theorem dX8_yearlyWear_7 : decode cX8_yearlyWear 7 = .ok (.aload_n 0, 1) := by decide +kernel
theorem dX8_yearlyWear_8 : decode cX8_yearlyWear 8 = .ok (.getfield 9, 3) := by decide +kernel
theorem dX8_yearlyWear_11 : decode cX8_yearlyWear 11 = .ok (.iload_n 1, 1) := by decide +kernel
theorem dX8_yearlyWear_12 : decode cX8_yearlyWear 12 = .ok (.iaload, 1) := by decide +kernel
theorem dX8_yearlyWear_13 : decode cX8_yearlyWear 13 = .ok (.tableswitch 41 1 4 #[31, 37, 41, 31], 31) := by decide +kernel
theorem dX8_yearlyWear_44 : decode cX8_yearlyWear 44 = .ok (.iload_n 3, 1) := by decide +kernel
theorem dX8_yearlyWear_45 : decode cX8_yearlyWear 45 = .ok (.iconst 1, 1) := by decide +kernel
theorem dX8_yearlyWear_46 : decode cX8_yearlyWear 46 = .ok (.iadd, 1) := by decide +kernel
theorem dX8_yearlyWear_47 : decode cX8_yearlyWear 47 = .ok (.iconst 2, 1) := by decide +kernel
theorem dX8_yearlyWear_48 : decode cX8_yearlyWear 48 = .ok (.idiv, 1) := by decide +kernel
theorem dX8_yearlyWear_49 : decode cX8_yearlyWear 49 = .ok (.ireturn, 1) := by decide +kernel
theorem dX8_yearlyWear_50 : decode cX8_yearlyWear 50 = .ok (.iload_n 3, 1) := by decide +kernel
theorem dX8_yearlyWear_51 : decode cX8_yearlyWear 51 = .ok (.iconst 2, 1) := by decide +kernel
theorem dX8_yearlyWear_52 : decode cX8_yearlyWear 52 = .ok (.imul, 1) := by decide +kernel
theorem dX8_yearlyWear_53 : decode cX8_yearlyWear 53 = .ok (.ireturn, 1) := by decide +kernel
theorem dX8_yearlyWear_54 : decode cX8_yearlyWear 54 = .ok (.iload_n 3, 1) := by decide +kernel
theorem dX8_yearlyWear_55 : decode cX8_yearlyWear 55 = .ok (.ireturn, 1) := by decide +kernel
theorem dX8_wornHead_0 : decode cX8_wornHead 0 = .ok (.sipush 999, 3) := by decide +kernel
theorem dX8_wornHead_3 : decode cX8_wornHead 3 = .ok (.iload_n 1, 1) := by decide +kernel
theorem dX8_wornHead_4 : decode cX8_wornHead 4 = .ok (.aload_n 0, 1) := by decide +kernel
theorem dX8_wornHead_5 : decode cX8_wornHead 5 = .ok (.iload_n 2, 1) := by decide +kernel
theorem dX8_wornHead_6 : decode cX8_wornHead 6 = .ok (.iload_n 3, 1) := by decide +kernel
theorem dX8_wornHead_7 : decode cX8_wornHead 7 = .ok (.invokevirtual 62, 3) := by decide +kernel
theorem dX8_wornHead_10 : decode cX8_wornHead 10 = .ok (.iadd, 1) := by decide +kernel
theorem dX8_wornHead_11 : decode cX8_wornHead 11 = .ok (.invokestatic 66, 3) := by decide +kernel
theorem dX8_wornHead_14 : decode cX8_wornHead 14 = .ok (.ireturn, 1) := by decide +kernel
theorem dX8_wearIfLaid_0 : decode cX8_wearIfLaid 0 = .ok (.iload_n 3, 1) := by decide +kernel
theorem dX8_wearIfLaid_1 : decode cX8_wearIfLaid 1 = .ok (.ifCond .eq 22, 3) := by decide +kernel
theorem dX8_wearIfLaid_4 : decode cX8_wearIfLaid 4 = .ok (.aload_n 0, 1) := by decide +kernel
theorem dX8_wearIfLaid_5 : decode cX8_wearIfLaid 5 = .ok (.getfield 9, 3) := by decide +kernel
theorem dX8_wearIfLaid_8 : decode cX8_wearIfLaid 8 = .ok (.iload_n 1, 1) := by decide +kernel
theorem dX8_wearIfLaid_9 : decode cX8_wearIfLaid 9 = .ok (.iaload, 1) := by decide +kernel
theorem dX8_wearIfLaid_10 : decode cX8_wearIfLaid 10 = .ok (.iconst 4, 1) := by decide +kernel
theorem dX8_wearIfLaid_11 : decode cX8_wearIfLaid 11 = .ok (.if_icmp .eq 12, 3) := by decide +kernel
theorem dX8_wearIfLaid_14 : decode cX8_wearIfLaid 14 = .ok (.aload_n 0, 1) := by decide +kernel
theorem dX8_wearIfLaid_15 : decode cX8_wearIfLaid 15 = .ok (.getfield 18, 3) := by decide +kernel
theorem dX8_wearIfLaid_18 : decode cX8_wearIfLaid 18 = .ok (.iload_n 1, 1) := by decide +kernel
theorem dX8_wearIfLaid_19 : decode cX8_wearIfLaid 19 = .ok (.iaload, 1) := by decide +kernel
theorem dX8_wearIfLaid_20 : decode cX8_wearIfLaid 20 = .ok (.goto 9, 3) := by decide +kernel
theorem dX8_wearIfLaid_23 : decode cX8_wearIfLaid 23 = .ok (.aload_n 0, 1) := by decide +kernel
theorem dX8_wearIfLaid_24 : decode cX8_wearIfLaid 24 = .ok (.getfield 15, 3) := by decide +kernel
theorem dX8_wearIfLaid_27 : decode cX8_wearIfLaid 27 = .ok (.iload_n 1, 1) := by decide +kernel
theorem dX8_wearIfLaid_28 : decode cX8_wearIfLaid 28 = .ok (.iaload, 1) := by decide +kernel
theorem dX8_wearIfLaid_29 : decode cX8_wearIfLaid 29 = .ok (.istore 4, 2) := by decide +kernel
theorem dX8_wearIfLaid_31 : decode cX8_wearIfLaid 31 = .ok (.aload_n 0, 1) := by decide +kernel
theorem dX8_wearIfLaid_32 : decode cX8_wearIfLaid 32 = .ok (.iload 4, 2) := by decide +kernel
theorem dX8_wearIfLaid_34 : decode cX8_wearIfLaid 34 = .ok (.iload_n 1, 1) := by decide +kernel
theorem dX8_wearIfLaid_35 : decode cX8_wearIfLaid 35 = .ok (.iload_n 2, 1) := by decide +kernel
theorem dX8_wearIfLaid_36 : decode cX8_wearIfLaid 36 = .ok (.invokevirtual 69, 3) := by decide +kernel
theorem dX8_wearIfLaid_39 : decode cX8_wearIfLaid 39 = .ok (.ireturn, 1) := by decide +kernel
theorem dX8_wearForAYear_0 : decode cX8_wearForAYear 0 = .ok (.iconst 0, 1) := by decide +kernel
theorem dX8_wearForAYear_1 : decode cX8_wearForAYear 1 = .ok (.istore_n 1, 1) := by decide +kernel
theorem dX8_wearForAYear_2 : decode cX8_wearForAYear 2 = .ok (.iload_n 1, 1) := by decide +kernel
theorem dX8_wearForAYear_3 : decode cX8_wearForAYear 3 = .ok (.aload_n 0, 1) := by decide +kernel
theorem dX8_wearForAYear_4 : decode cX8_wearForAYear 4 = .ok (.getfield 33, 3) := by decide +kernel
theorem dX8_wearForAYear_7 : decode cX8_wearForAYear 7 = .ok (.if_icmp .ge 32, 3) := by decide +kernel
theorem dX8_wearForAYear_10 : decode cX8_wearForAYear 10 = .ok (.aload_n 0, 1) := by decide +kernel
theorem dX8_wearForAYear_11 : decode cX8_wearForAYear 11 = .ok (.getfield 15, 3) := by decide +kernel
theorem dX8_wearForAYear_14 : decode cX8_wearForAYear 14 = .ok (.iload_n 1, 1) := by decide +kernel
theorem dX8_wearForAYear_15 : decode cX8_wearForAYear 15 = .ok (.aload_n 0, 1) := by decide +kernel
theorem dX8_wearForAYear_16 : decode cX8_wearForAYear 16 = .ok (.aload_n 0, 1) := by decide +kernel
theorem dX8_wearForAYear_17 : decode cX8_wearForAYear 17 = .ok (.getfield 15, 3) := by decide +kernel
theorem dX8_wearForAYear_20 : decode cX8_wearForAYear 20 = .ok (.iload_n 1, 1) := by decide +kernel
theorem dX8_wearForAYear_21 : decode cX8_wearForAYear 21 = .ok (.iaload, 1) := by decide +kernel
theorem dX8_wearForAYear_22 : decode cX8_wearForAYear 22 = .ok (.iload_n 1, 1) := by decide +kernel
theorem dX8_wearForAYear_23 : decode cX8_wearForAYear 23 = .ok (.aload_n 0, 1) := by decide +kernel
theorem dX8_wearForAYear_24 : decode cX8_wearForAYear 24 = .ok (.getfield 24, 3) := by decide +kernel
theorem dX8_wearForAYear_27 : decode cX8_wearForAYear 27 = .ok (.iload_n 1, 1) := by decide +kernel
theorem dX8_wearForAYear_28 : decode cX8_wearForAYear 28 = .ok (.iaload, 1) := by decide +kernel
theorem dX8_wearForAYear_29 : decode cX8_wearForAYear 29 = .ok (.invokevirtual 69, 3) := by decide +kernel
theorem dX8_wearForAYear_32 : decode cX8_wearForAYear 32 = .ok (.iastore, 1) := by decide +kernel
theorem dX8_wearForAYear_33 : decode cX8_wearForAYear 33 = .ok (.iinc 1 1, 3) := by decide +kernel
theorem dX8_wearForAYear_36 : decode cX8_wearForAYear 36 = .ok (.goto (-34), 3) := by decide +kernel
theorem dX8_wearForAYear_39 : decode cX8_wearForAYear 39 = .ok (.return_, 1) := by decide +kernel
theorem dX8_burnWorn_0 : decode cX8_burnWorn 0 = .ok (.iconst 0, 1) := by decide +kernel
theorem dX8_burnWorn_1 : decode cX8_burnWorn 1 = .ok (.istore_n 2, 1) := by decide +kernel
theorem dX8_burnWorn_2 : decode cX8_burnWorn 2 = .ok (.iconst 0, 1) := by decide +kernel
theorem dX8_burnWorn_3 : decode cX8_burnWorn 3 = .ok (.istore_n 3, 1) := by decide +kernel
theorem dX8_burnWorn_4 : decode cX8_burnWorn 4 = .ok (.iload_n 3, 1) := by decide +kernel
theorem dX8_burnWorn_5 : decode cX8_burnWorn 5 = .ok (.aload_n 0, 1) := by decide +kernel
theorem dX8_burnWorn_6 : decode cX8_burnWorn 6 = .ok (.getfield 33, 3) := by decide +kernel
theorem dX8_burnWorn_9 : decode cX8_burnWorn 9 = .ok (.if_icmp .ge 46, 3) := by decide +kernel
theorem dX8_burnWorn_12 : decode cX8_burnWorn 12 = .ok (.aload_n 0, 1) := by decide +kernel
theorem dX8_burnWorn_13 : decode cX8_burnWorn 13 = .ok (.getfield 15, 3) := by decide +kernel
theorem dX8_burnWorn_16 : decode cX8_burnWorn 16 = .ok (.iload_n 3, 1) := by decide +kernel
theorem dX8_burnWorn_17 : decode cX8_burnWorn 17 = .ok (.iaload, 1) := by decide +kernel
theorem dX8_burnWorn_18 : decode cX8_burnWorn 18 = .ok (.iload_n 1, 1) := by decide +kernel
theorem dX8_burnWorn_19 : decode cX8_burnWorn 19 = .ok (.if_icmp .lt 30, 3) := by decide +kernel
theorem dX8_burnWorn_22 : decode cX8_burnWorn 22 = .ok (.aload_n 0, 1) := by decide +kernel
theorem dX8_burnWorn_23 : decode cX8_burnWorn 23 = .ok (.getfield 18, 3) := by decide +kernel
theorem dX8_burnWorn_26 : decode cX8_burnWorn 26 = .ok (.iload_n 3, 1) := by decide +kernel
theorem dX8_burnWorn_27 : decode cX8_burnWorn 27 = .ok (.iaload, 1) := by decide +kernel
theorem dX8_burnWorn_28 : decode cX8_burnWorn 28 = .ok (.iload_n 1, 1) := by decide +kernel
theorem dX8_burnWorn_29 : decode cX8_burnWorn 29 = .ok (.if_icmp .lt 20, 3) := by decide +kernel
theorem dX8_burnWorn_32 : decode cX8_burnWorn 32 = .ok (.aload_n 0, 1) := by decide +kernel
theorem dX8_burnWorn_33 : decode cX8_burnWorn 33 = .ok (.getfield 15, 3) := by decide +kernel
theorem dX8_burnWorn_36 : decode cX8_burnWorn 36 = .ok (.iload_n 3, 1) := by decide +kernel
theorem dX8_burnWorn_37 : decode cX8_burnWorn 37 = .ok (.iconst 0, 1) := by decide +kernel
theorem dX8_burnWorn_38 : decode cX8_burnWorn 38 = .ok (.iastore, 1) := by decide +kernel
theorem dX8_burnWorn_39 : decode cX8_burnWorn 39 = .ok (.aload_n 0, 1) := by decide +kernel
theorem dX8_burnWorn_40 : decode cX8_burnWorn 40 = .ok (.getfield 18, 3) := by decide +kernel
theorem dX8_burnWorn_43 : decode cX8_burnWorn 43 = .ok (.iload_n 3, 1) := by decide +kernel
theorem dX8_burnWorn_44 : decode cX8_burnWorn 44 = .ok (.iconst 0, 1) := by decide +kernel
theorem dX8_burnWorn_45 : decode cX8_burnWorn 45 = .ok (.iastore, 1) := by decide +kernel
theorem dX8_burnWorn_46 : decode cX8_burnWorn 46 = .ok (.iinc 2 1, 3) := by decide +kernel
theorem dX8_burnWorn_49 : decode cX8_burnWorn 49 = .ok (.iinc 3 1, 3) := by decide +kernel
theorem dX8_burnWorn_52 : decode cX8_burnWorn 52 = .ok (.goto (-48), 3) := by decide +kernel
theorem dX8_burnWorn_55 : decode cX8_burnWorn 55 = .ok (.iload_n 2, 1) := by decide +kernel
theorem dX8_burnWorn_56 : decode cX8_burnWorn 56 = .ok (.ireturn, 1) := by decide +kernel
theorem dX8_worstWear_0 : decode cX8_worstWear 0 = .ok (.iconst 0, 1) := by decide +kernel
theorem dX8_worstWear_1 : decode cX8_worstWear 1 = .ok (.istore_n 1, 1) := by decide +kernel
theorem dX8_worstWear_2 : decode cX8_worstWear 2 = .ok (.iconst 0, 1) := by decide +kernel
theorem dX8_worstWear_3 : decode cX8_worstWear 3 = .ok (.istore_n 2, 1) := by decide +kernel
theorem dX8_worstWear_4 : decode cX8_worstWear 4 = .ok (.iload_n 2, 1) := by decide +kernel
theorem dX8_worstWear_5 : decode cX8_worstWear 5 = .ok (.aload_n 0, 1) := by decide +kernel
theorem dX8_worstWear_6 : decode cX8_worstWear 6 = .ok (.getfield 33, 3) := by decide +kernel
