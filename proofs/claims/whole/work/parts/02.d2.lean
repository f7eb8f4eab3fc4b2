theorem dX8_worstWear_9 : decode cX8_worstWear 9 = .ok (.if_icmp .ge 20, 3) := by decide +kernel
theorem dX8_worstWear_12 : decode cX8_worstWear 12 = .ok (.iload_n 1, 1) := by decide +kernel
theorem dX8_worstWear_13 : decode cX8_worstWear 13 = .ok (.aload_n 0, 1) := by decide +kernel
theorem dX8_worstWear_14 : decode cX8_worstWear 14 = .ok (.getfield 15, 3) := by decide +kernel
theorem dX8_worstWear_17 : decode cX8_worstWear 17 = .ok (.iload_n 2, 1) := by decide +kernel
theorem dX8_worstWear_18 : decode cX8_worstWear 18 = .ok (.iaload, 1) := by decide +kernel
theorem dX8_worstWear_19 : decode cX8_worstWear 19 = .ok (.invokestatic 73, 3) := by decide +kernel
theorem dX8_worstWear_22 : decode cX8_worstWear 22 = .ok (.istore_n 1, 1) := by decide +kernel
theorem dX8_worstWear_23 : decode cX8_worstWear 23 = .ok (.iinc 2 1, 3) := by decide +kernel
theorem dX8_worstWear_26 : decode cX8_worstWear 26 = .ok (.goto (-22), 3) := by decide +kernel
theorem dX8_worstWear_29 : decode cX8_worstWear 29 = .ok (.iload_n 1, 1) := by decide +kernel
theorem dX8_worstWear_30 : decode cX8_worstWear 30 = .ok (.ireturn, 1) := by decide +kernel
theorem dX8_looksNeeded_0 : decode cX8_looksNeeded 0 = .ok (.iconst 0, 1) := by decide +kernel
theorem dX8_looksNeeded_1 : decode cX8_looksNeeded 1 = .ok (.istore_n 1, 1) := by decide +kernel
theorem dX8_looksNeeded_2 : decode cX8_looksNeeded 2 = .ok (.iconst 0, 1) := by decide +kernel
theorem dX8_looksNeeded_3 : decode cX8_looksNeeded 3 = .ok (.istore_n 2, 1) := by decide +kernel
theorem dX8_looksNeeded_4 : decode cX8_looksNeeded 4 = .ok (.iload_n 2, 1) := by decide +kernel
theorem dX8_looksNeeded_5 : decode cX8_looksNeeded 5 = .ok (.aload_n 0, 1) := by decide +kernel
theorem dX8_looksNeeded_6 : decode cX8_looksNeeded 6 = .ok (.getfield 33, 3) := by decide +kernel
theorem dX8_looksNeeded_9 : decode cX8_looksNeeded 9 = .ok (.if_icmp .ge 20, 3) := by decide +kernel
theorem dX8_looksNeeded_12 : decode cX8_looksNeeded 12 = .ok (.iload_n 1, 1) := by decide +kernel
theorem dX8_looksNeeded_13 : decode cX8_looksNeeded 13 = .ok (.iconst 1, 1) := by decide +kernel
theorem dX8_looksNeeded_14 : decode cX8_looksNeeded 14 = .ok (.aload_n 0, 1) := by decide +kernel
theorem dX8_looksNeeded_15 : decode cX8_looksNeeded 15 = .ok (.getfield 9, 3) := by decide +kernel
theorem dX8_looksNeeded_18 : decode cX8_looksNeeded 18 = .ok (.iload_n 2, 1) := by decide +kernel
theorem dX8_looksNeeded_19 : decode cX8_looksNeeded 19 = .ok (.iaload, 1) := by decide +kernel
theorem dX8_looksNeeded_20 : decode cX8_looksNeeded 20 = .ok (.ishl, 1) := by decide +kernel
theorem dX8_looksNeeded_21 : decode cX8_looksNeeded 21 = .ok (.ior, 1) := by decide +kernel
theorem dX8_looksNeeded_22 : decode cX8_looksNeeded 22 = .ok (.istore_n 1, 1) := by decide +kernel
theorem dX8_looksNeeded_23 : decode cX8_looksNeeded 23 = .ok (.iinc 2 1, 3) := by decide +kernel
theorem dX8_looksNeeded_26 : decode cX8_looksNeeded 26 = .ok (.goto (-22), 3) := by decide +kernel
theorem dX8_looksNeeded_29 : decode cX8_looksNeeded 29 = .ok (.aload_n 0, 1) := by decide +kernel
theorem dX8_looksNeeded_30 : decode cX8_looksNeeded 30 = .ok (.getfield 33, 3) := by decide +kernel
theorem dX8_looksNeeded_33 : decode cX8_looksNeeded 33 = .ok (.iload_n 1, 1) := by decide +kernel
theorem dX8_looksNeeded_34 : decode cX8_looksNeeded 34 = .ok (.invokestatic 76, 3) := by decide +kernel
theorem dX8_looksNeeded_37 : decode cX8_looksNeeded 37 = .ok (.isub, 1) := by decide +kernel
theorem dX8_looksNeeded_38 : decode cX8_looksNeeded 38 = .ok (.ireturn, 1) := by decide +kernel
theorem dX8_wheelsInUse_0 : decode cX8_wheelsInUse 0 = .ok (.iconst 0, 1) := by decide +kernel
theorem dX8_wheelsInUse_1 : decode cX8_wheelsInUse 1 = .ok (.istore_n 1, 1) := by decide +kernel
theorem dX8_wheelsInUse_2 : decode cX8_wheelsInUse 2 = .ok (.iconst 0, 1) := by decide +kernel
theorem dX8_wheelsInUse_3 : decode cX8_wheelsInUse 3 = .ok (.istore_n 2, 1) := by decide +kernel
theorem dX8_wheelsInUse_4 : decode cX8_wheelsInUse 4 = .ok (.iload_n 2, 1) := by decide +kernel
theorem dX8_wheelsInUse_5 : decode cX8_wheelsInUse 5 = .ok (.aload_n 0, 1) := by decide +kernel
theorem dX8_wheelsInUse_6 : decode cX8_wheelsInUse 6 = .ok (.getfield 33, 3) := by decide +kernel
theorem dX8_wheelsInUse_9 : decode cX8_wheelsInUse 9 = .ok (.if_icmp .ge 18, 3) := by decide +kernel
theorem dX8_wheelsInUse_12 : decode cX8_wheelsInUse 12 = .ok (.iload_n 1, 1) := by decide +kernel
theorem dX8_wheelsInUse_13 : decode cX8_wheelsInUse 13 = .ok (.aload_n 0, 1) := by decide +kernel
theorem dX8_wheelsInUse_14 : decode cX8_wheelsInUse 14 = .ok (.getfield 30, 3) := by decide +kernel
theorem dX8_wheelsInUse_17 : decode cX8_wheelsInUse 17 = .ok (.iload_n 2, 1) := by decide +kernel
theorem dX8_wheelsInUse_18 : decode cX8_wheelsInUse 18 = .ok (.iaload, 1) := by decide +kernel
theorem dX8_wheelsInUse_19 : decode cX8_wheelsInUse 19 = .ok (.iadd, 1) := by decide +kernel
theorem dX8_wheelsInUse_20 : decode cX8_wheelsInUse 20 = .ok (.istore_n 1, 1) := by decide +kernel
theorem dX8_wheelsInUse_21 : decode cX8_wheelsInUse 21 = .ok (.iinc 2 1, 3) := by decide +kernel
theorem dX8_wheelsInUse_24 : decode cX8_wheelsInUse 24 = .ok (.goto (-20), 3) := by decide +kernel
theorem dX8_wheelsInUse_27 : decode cX8_wheelsInUse 27 = .ok (.iload_n 1, 1) := by decide +kernel
theorem dX8_wheelsInUse_28 : decode cX8_wheelsInUse 28 = .ok (.ireturn, 1) := by decide +kernel
theorem dX9_init_0 : decode cX9_init 0 = .ok (.aload_n 0, 1) := by decide +kernel
theorem dX9_init_1 : decode cX9_init 1 = .ok (.invokespecial 1, 3) := by decide +kernel
theorem dX9_init_4 : decode cX9_init 4 = .ok (.aload_n 0, 1) := by decide +kernel
theorem dX9_init_5 : decode cX9_init 5 = .ok (.new 7, 3) := by decide +kernel
theorem dX9_init_8 : decode cX9_init 8 = .ok (.dup, 1) := by decide +kernel
theorem dX9_init_9 : decode cX9_init 9 = .ok (.invokespecial 9, 3) := by decide +kernel
theorem dX9_init_12 : decode cX9_init 12 = .ok (.putfield 10, 3) := by decide +kernel
theorem dX9_init_15 : decode cX9_init 15 = .ok (.aload_n 0, 1) := by decide +kernel
theorem dX9_init_16 : decode cX9_init 16 = .ok (.new 16, 3) := by decide +kernel
theorem dX9_init_19 : decode cX9_init 19 = .ok (.dup, 1) := by decide +kernel
theorem dX9_init_20 : decode cX9_init 20 = .ok (.invokespecial 18, 3) := by decide +kernel
theorem dX9_init_23 : decode cX9_init 23 = .ok (.putfield 19, 3) := by decide +kernel
theorem dX9_init_26 : decode cX9_init 26 = .ok (.aload_n 0, 1) := by decide +kernel
theorem dX9_init_27 : decode cX9_init 27 = .ok (.new 23, 3) := by decide +kernel
theorem dX9_init_30 : decode cX9_init 30 = .ok (.dup, 1) := by decide +kernel
theorem dX9_init_31 : decode cX9_init 31 = .ok (.invokespecial 25, 3) := by decide +kernel
theorem dX9_init_34 : decode cX9_init 34 = .ok (.putfield 26, 3) := by decide +kernel
theorem dX9_init_37 : decode cX9_init 37 = .ok (.aload_n 0, 1) := by decide +kernel
theorem dX9_init_38 : decode cX9_init 38 = .ok (.new 23, 3) := by decide +kernel
theorem dX9_init_41 : decode cX9_init 41 = .ok (.dup, 1) := by decide +kernel
theorem dX9_init_42 : decode cX9_init 42 = .ok (.invokespecial 25, 3) := by decide +kernel
theorem dX9_init_45 : decode cX9_init 45 = .ok (.putfield 30, 3) := by decide +kernel
theorem dX9_init_48 : decode cX9_init 48 = .ok (.aload_n 0, 1) := by decide +kernel
theorem dX9_init_49 : decode cX9_init 49 = .ok (.new 33, 3) := by decide +kernel
theorem dX9_init_52 : decode cX9_init 52 = .ok (.dup, 1) := by decide +kernel
theorem dX9_init_53 : decode cX9_init 53 = .ok (.invokespecial 35, 3) := by decide +kernel
theorem dX9_init_56 : decode cX9_init 56 = .ok (.putfield 36, 3) := by decide +kernel
theorem dX9_init_59 : decode cX9_init 59 = .ok (.aload_n 0, 1) := by decide +kernel
theorem dX9_init_60 : decode cX9_init 60 = .ok (.new 40, 3) := by decide +kernel
theorem dX9_init_63 : decode cX9_init 63 = .ok (.dup, 1) := by decide +kernel
theorem dX9_init_64 : decode cX9_init 64 = .ok (.invokespecial 42, 3) := by decide +kernel
theorem dX9_init_67 : decode cX9_init 67 = .ok (.putfield 43, 3) := by decide +kernel
theorem dX9_init_70 : decode cX9_init 70 = .ok (.aload_n 0, 1) := by decide +kernel
theorem dX9_init_71 : decode cX9_init 71 = .ok (.new 47, 3) := by decide +kernel
theorem dX9_init_74 : decode cX9_init 74 = .ok (.dup, 1) := by decide +kernel
theorem dX9_init_75 : decode cX9_init 75 = .ok (.invokespecial 49, 3) := by decide +kernel
theorem dX9_init_78 : decode cX9_init 78 = .ok (.putfield 50, 3) := by decide +kernel
theorem dX9_init_81 : decode cX9_init 81 = .ok (.aload_n 0, 1) := by decide +kernel
theorem dX9_init_82 : decode cX9_init 82 = .ok (.new 54, 3) := by decide +kernel
theorem dX9_init_85 : decode cX9_init 85 = .ok (.dup, 1) := by decide +kernel
theorem dX9_init_86 : decode cX9_init 86 = .ok (.invokespecial 56, 3) := by decide +kernel
theorem dX9_init_89 : decode cX9_init 89 = .ok (.putfield 57, 3) := by decide +kernel
theorem dX9_init_92 : decode cX9_init 92 = .ok (.return_, 1) := by decide +kernel
theorem dX9_letters_0 : decode cX9_letters 0 = .ok (.lload_n 1, 1) := by decide +kernel
theorem dX9_letters_1 : decode cX9_letters 1 = .ok (.invokestatic 61, 3) := by decide +kernel
theorem dX9_letters_4 : decode cX9_letters 4 = .ok (.istore_n 3, 1) := by decide +kernel
theorem dX9_letters_5 : decode cX9_letters 5 = .ok (.iload_n 3, 1) := by decide +kernel
theorem dX9_letters_6 : decode cX9_letters 6 = .ok (.iconst (-1), 1) := by decide +kernel
theorem dX9_letters_7 : decode cX9_letters 7 = .ok (.if_icmp .ne 6, 3) := by decide +kernel
theorem dX9_letters_10 : decode cX9_letters 10 = .ok (.bipush (-102), 2) := by decide +kernel
theorem dX9_letters_12 : decode cX9_letters 12 = .ok (.ireturn, 1) := by decide +kernel
theorem dX9_letters_13 : decode cX9_letters 13 = .ok (.aload_n 0, 1) := by decide +kernel
theorem dX9_letters_14 : decode cX9_letters 14 = .ok (.getfield 10, 3) := by decide +kernel
theorem dX9_letters_17 : decode cX9_letters 17 = .ok (.invokevirtual 65, 3) := by decide +kernel
theorem dX9_letters_20 : decode cX9_letters 20 = .ok (.iload_n 3, 1) := by decide +kernel
theorem dX9_letters_21 : decode cX9_letters 21 = .ok (.iadd, 1) := by decide +kernel
theorem dX9_letters_22 : decode cX9_letters 22 = .ok (.bipush 16, 2) := by decide +kernel
theorem dX9_letters_24 : decode cX9_letters 24 = .ok (.if_icmp .le 6, 3) := by decide +kernel
theorem dX9_letters_27 : decode cX9_letters 27 = .ok (.bipush (-104), 2) := by decide +kernel
theorem dX9_letters_29 : decode cX9_letters 29 = .ok (.ireturn, 1) := by decide +kernel
theorem dX9_letters_30 : decode cX9_letters 30 = .ok (.aload_n 0, 1) := by decide +kernel
theorem dX9_letters_31 : decode cX9_letters 31 = .ok (.getfield 10, 3) := by decide +kernel
theorem dX9_letters_34 : decode cX9_letters 34 = .ok (.lload_n 1, 1) := by decide +kernel
theorem dX9_letters_35 : decode cX9_letters 35 = .ok (.iload_n 3, 1) := by decide +kernel
theorem dX9_letters_36 : decode cX9_letters 36 = .ok (.invokevirtual 69, 3) := by decide +kernel
theorem dX9_letters_39 : decode cX9_letters 39 = .ok (.aload_n 0, 1) := by decide +kernel
theorem dX9_letters_40 : decode cX9_letters 40 = .ok (.getfield 10, 3) := by decide +kernel
theorem dX9_letters_43 : decode cX9_letters 43 = .ok (.invokevirtual 65, 3) := by decide +kernel
theorem dX9_letters_46 : decode cX9_letters 46 = .ok (.ireturn, 1) := by decide +kernel
theorem dX9_blank_0 : decode cX9_blank 0 = .ok (.aload_n 0, 1) := by decide +kernel
theorem dX9_blank_1 : decode cX9_blank 1 = .ok (.getfield 10, 3) := by decide +kernel
theorem dX9_blank_4 : decode cX9_blank 4 = .ok (.invokevirtual 65, 3) := by decide +kernel
theorem dX9_blank_7 : decode cX9_blank 7 = .ok (.istore_n 1, 1) := by decide +kernel
theorem dX9_blank_8 : decode cX9_blank 8 = .ok (.aload_n 0, 1) := by decide +kernel
theorem dX9_blank_9 : decode cX9_blank 9 = .ok (.getfield 10, 3) := by decide +kernel
theorem dX9_blank_12 : decode cX9_blank 12 = .ok (.invokevirtual 73, 3) := by decide +kernel
theorem dX9_blank_15 : decode cX9_blank 15 = .ok (.iload_n 1, 1) := by decide +kernel
theorem dX9_blank_16 : decode cX9_blank 16 = .ok (.ireturn, 1) := by decide +kernel
theorem dX9_fault_0 : decode cX9_fault 0 = .ok (.aload_n 0, 1) := by decide +kernel
theorem dX9_fault_1 : decode cX9_fault 1 = .ok (.getfield 10, 3) := by decide +kernel
theorem dX9_fault_4 : decode cX9_fault 4 = .ok (.invokevirtual 76, 3) := by decide +kernel
theorem dX9_fault_7 : decode cX9_fault 7 = .ok (.ireturn, 1) := by decide +kernel
theorem dX9_law_0 : decode cX9_law 0 = .ok (.aload_n 0, 1) := by decide +kernel
theorem dX9_law_1 : decode cX9_law 1 = .ok (.getfield 10, 3) := by decide +kernel
theorem dX9_law_4 : decode cX9_law 4 = .ok (.invokevirtual 79, 3) := by decide +kernel
theorem dX9_law_7 : decode cX9_law 7 = .ok (.ifCond .ne 6, 3) := by decide +kernel
theorem dX9_law_10 : decode cX9_law 10 = .ok (.bipush (-103), 2) := by decide +kernel
theorem dX9_law_12 : decode cX9_law 12 = .ok (.ireturn, 1) := by decide +kernel
theorem dX9_law_13 : decode cX9_law 13 = .ok (.aload_n 0, 1) := by decide +kernel
theorem dX9_law_14 : decode cX9_law 14 = .ok (.getfield 19, 3) := by decide +kernel
theorem dX9_law_17 : decode cX9_law 17 = .ok (.aload_n 0, 1) := by decide +kernel
theorem dX9_law_18 : decode cX9_law 18 = .ok (.getfield 10, 3) := by decide +kernel
theorem dX9_law_21 : decode cX9_law 21 = .ok (.invokevirtual 83, 3) := by decide +kernel
theorem dX9_law_24 : decode cX9_law 24 = .ok (.aload_n 0, 1) := by decide +kernel
theorem dX9_law_25 : decode cX9_law 25 = .ok (.getfield 10, 3) := by decide +kernel
theorem dX9_law_28 : decode cX9_law 28 = .ok (.invokevirtual 73, 3) := by decide +kernel
theorem dX9_law_31 : decode cX9_law 31 = .ok (.aload_n 0, 1) := by decide +kernel
theorem dX9_law_32 : decode cX9_law 32 = .ok (.dup, 1) := by decide +kernel
theorem dX9_law_33 : decode cX9_law 33 = .ok (.getfield 87, 3) := by decide +kernel
theorem dX9_law_36 : decode cX9_law 36 = .ok (.iconst 1, 1) := by decide +kernel
theorem dX9_law_37 : decode cX9_law 37 = .ok (.iadd, 1) := by decide +kernel
theorem dX9_law_38 : decode cX9_law 38 = .ok (.putfield 87, 3) := by decide +kernel
theorem dX9_law_41 : decode cX9_law 41 = .ok (.aload_n 0, 1) := by decide +kernel
theorem dX9_law_42 : decode cX9_law 42 = .ok (.getfield 87, 3) := by decide +kernel
theorem dX9_law_45 : decode cX9_law 45 = .ok (.ireturn, 1) := by decide +kernel
theorem dX9_lawTold_0 : decode cX9_lawTold 0 = .ok (.iload_n 1, 1) := by decide +kernel
theorem dX9_lawTold_1 : decode cX9_lawTold 1 = .ok (.iconst 0, 1) := by decide +kernel
theorem dX9_lawTold_2 : decode cX9_lawTold 2 = .ok (.iconst 3, 1) := by decide +kernel
theorem dX9_lawTold_3 : decode cX9_lawTold 3 = .ok (.invokestatic 91, 3) := by decide +kernel
theorem dX9_lawTold_6 : decode cX9_lawTold 6 = .ok (.ifCond .eq 14, 3) := by decide +kernel
theorem dX9_lawTold_9 : decode cX9_lawTold 9 = .ok (.aload_n 0, 1) := by decide +kernel
theorem dX9_lawTold_10 : decode cX9_lawTold 10 = .ok (.getfield 19, 3) := by decide +kernel
theorem dX9_lawTold_13 : decode cX9_lawTold 13 = .ok (.iload_n 1, 1) := by decide +kernel
theorem dX9_lawTold_14 : decode cX9_lawTold 14 = .ok (.invokevirtual 95, 3) := by decide +kernel
theorem dX9_lawTold_17 : decode cX9_lawTold 17 = .ok (.goto 5, 3) := by decide +kernel
theorem dX9_lawTold_20 : decode cX9_lawTold 20 = .ok (.bipush (-102), 2) := by decide +kernel
theorem dX9_lawTold_22 : decode cX9_lawTold 22 = .ok (.ireturn, 1) := by decide +kernel
theorem dX9_block_0 : decode cX9_block 0 = .ok (.iload_n 1, 1) := by decide +kernel
theorem dX9_block_1 : decode cX9_block 1 = .ok (.invokestatic 99, 3) := by decide +kernel
theorem dX9_block_4 : decode cX9_block 4 = .ok (.ifCond .eq 25, 3) := by decide +kernel
theorem dX9_block_7 : decode cX9_block 7 = .ok (.iload_n 2, 1) := by decide +kernel
theorem dX9_block_8 : decode cX9_block 8 = .ok (.iconst 0, 1) := by decide +kernel
theorem dX9_block_9 : decode cX9_block 9 = .ok (.sipush 999, 3) := by decide +kernel
theorem dX9_block_12 : decode cX9_block 12 = .ok (.invokestatic 91, 3) := by decide +kernel
theorem dX9_block_15 : decode cX9_block 15 = .ok (.ifCond .eq 14, 3) := by decide +kernel
theorem dX9_block_18 : decode cX9_block 18 = .ok (.iload_n 3, 1) := by decide +kernel
theorem dX9_block_19 : decode cX9_block 19 = .ok (.iconst 0, 1) := by decide +kernel
theorem dX9_block_20 : decode cX9_block 20 = .ok (.sipush 999, 3) := by decide +kernel
theorem dX9_block_23 : decode cX9_block 23 = .ok (.invokestatic 91, 3) := by decide +kernel
theorem dX9_block_26 : decode cX9_block 26 = .ok (.ifCond .ne 6, 3) := by decide +kernel
theorem dX9_block_29 : decode cX9_block 29 = .ok (.bipush (-102), 2) := by decide +kernel
theorem dX9_block_31 : decode cX9_block 31 = .ok (.ireturn, 1) := by decide +kernel
theorem dX9_block_32 : decode cX9_block 32 = .ok (.aload_n 0, 1) := by decide +kernel
theorem dX9_block_33 : decode cX9_block 33 = .ok (.getfield 26, 3) := by decide +kernel
theorem dX9_block_36 : decode cX9_block 36 = .ok (.iload_n 1, 1) := by decide +kernel
theorem dX9_block_37 : decode cX9_block 37 = .ok (.iload_n 2, 1) := by decide +kernel
theorem dX9_block_38 : decode cX9_block 38 = .ok (.iload_n 3, 1) := by decide +kernel
theorem dX9_block_39 : decode cX9_block 39 = .ok (.invokevirtual 103, 3) := by decide +kernel
theorem dX9_block_42 : decode cX9_block 42 = .ok (.ireturn, 1) := by decide +kernel
theorem dX9_about_0 : decode cX9_about 0 = .ok (.aload_n 0, 1) := by decide +kernel
theorem dX9_about_1 : decode cX9_about 1 = .ok (.getfield 26, 3) := by decide +kernel
theorem dX9_about_4 : decode cX9_about 4 = .ok (.iload_n 1, 1) := by decide +kernel
theorem dX9_about_5 : decode cX9_about 5 = .ok (.invokevirtual 107, 3) := by decide +kernel
theorem dX9_about_8 : decode cX9_about 8 = .ok (.ifCond .ne 6, 3) := by decide +kernel
theorem dX9_about_11 : decode cX9_about 11 = .ok (.bipush (-101), 2) := by decide +kernel
theorem dX9_about_13 : decode cX9_about 13 = .ok (.ireturn, 1) := by decide +kernel
theorem dX9_about_14 : decode cX9_about 14 = .ok (.iload_n 2, 1) := by decide +kernel
theorem dX9_about_15 : decode cX9_about 15 = .ok (.iconst 0, 1) := by decide +kernel
theorem dX9_about_16 : decode cX9_about 16 = .ok (.iconst 4, 1) := by decide +kernel
theorem dX9_about_17 : decode cX9_about 17 = .ok (.invokestatic 91, 3) := by decide +kernel
theorem dX9_about_20 : decode cX9_about 20 = .ok (.ifCond .eq 15, 3) := by decide +kernel
theorem dX9_about_23 : decode cX9_about 23 = .ok (.aload_n 0, 1) := by decide +kernel
theorem dX9_about_24 : decode cX9_about 24 = .ok (.getfield 26, 3) := by decide +kernel
theorem dX9_about_27 : decode cX9_about 27 = .ok (.iload_n 1, 1) := by decide +kernel
theorem dX9_about_28 : decode cX9_about 28 = .ok (.iload_n 2, 1) := by decide +kernel
theorem dX9_about_29 : decode cX9_about 29 = .ok (.invokevirtual 110, 3) := by decide +kernel
theorem dX9_about_32 : decode cX9_about 32 = .ok (.goto 5, 3) := by decide +kernel
theorem dX9_about_35 : decode cX9_about 35 = .ok (.bipush (-102), 2) := by decide +kernel
theorem dX9_about_37 : decode cX9_about 37 = .ok (.ireturn, 1) := by decide +kernel
theorem dX9_as_0 : decode cX9_as 0 = .ok (.aload_n 0, 1) := by decide +kernel
theorem dX9_as_1 : decode cX9_as 1 = .ok (.getfield 26, 3) := by decide +kernel
theorem dX9_as_4 : decode cX9_as 4 = .ok (.iload_n 1, 1) := by decide +kernel
theorem dX9_as_5 : decode cX9_as 5 = .ok (.invokevirtual 107, 3) := by decide +kernel
theorem dX9_as_8 : decode cX9_as 8 = .ok (.ifCond .ne 6, 3) := by decide +kernel
theorem dX9_as_11 : decode cX9_as 11 = .ok (.bipush (-101), 2) := by decide +kernel
theorem dX9_as_13 : decode cX9_as 13 = .ok (.ireturn, 1) := by decide +kernel
theorem dX9_as_14 : decode cX9_as 14 = .ok (.iload_n 2, 1) := by decide +kernel
theorem dX9_as_15 : decode cX9_as 15 = .ok (.invokestatic 99, 3) := by decide +kernel
theorem dX9_as_18 : decode cX9_as 18 = .ok (.ifCond .ne 6, 3) := by decide +kernel
theorem dX9_as_21 : decode cX9_as 21 = .ok (.bipush (-102), 2) := by decide +kernel
theorem dX9_as_23 : decode cX9_as 23 = .ok (.ireturn, 1) := by decide +kernel
theorem dX9_as_24 : decode cX9_as 24 = .ok (.aload_n 0, 1) := by decide +kernel
theorem dX9_as_25 : decode cX9_as 25 = .ok (.getfield 26, 3) := by decide +kernel
theorem dX9_as_28 : decode cX9_as 28 = .ok (.iload_n 1, 1) := by decide +kernel
theorem dX9_as_29 : decode cX9_as 29 = .ok (.invokevirtual 113, 3) := by decide +kernel
theorem dX9_as_32 : decode cX9_as 32 = .ok (.iload_n 2, 1) := by decide +kernel
theorem dX9_as_33 : decode cX9_as 33 = .ok (.invokestatic 116, 3) := by decide +kernel
theorem dX9_as_36 : decode cX9_as 36 = .ok (.ifCond .eq 7, 3) := by decide +kernel
theorem dX9_as_39 : decode cX9_as 39 = .ok (.iload_n 1, 1) := by decide +kernel
theorem dX9_as_40 : decode cX9_as 40 = .ok (.goto 4, 3) := by decide +kernel
theorem dX9_as_43 : decode cX9_as 43 = .ok (.iconst (-1), 1) := by decide +kernel
theorem dX9_as_44 : decode cX9_as 44 = .ok (.ireturn, 1) := by decide +kernel
theorem dX9_wheels_0 : decode cX9_wheels 0 = .ok (.iload_n 1, 1) := by decide +kernel
theorem dX9_wheels_1 : decode cX9_wheels 1 = .ok (.iconst 0, 1) := by decide +kernel
theorem dX9_wheels_2 : decode cX9_wheels 2 = .ok (.bipush 6, 2) := by decide +kernel
theorem dX9_wheels_4 : decode cX9_wheels 4 = .ok (.invokestatic 91, 3) := by decide +kernel
theorem dX9_wheels_7 : decode cX9_wheels 7 = .ok (.ifCond .ne 6, 3) := by decide +kernel
theorem dX9_wheels_10 : decode cX9_wheels 10 = .ok (.bipush (-101), 2) := by decide +kernel
theorem dX9_wheels_12 : decode cX9_wheels 12 = .ok (.ireturn, 1) := by decide +kernel
theorem dX9_wheels_13 : decode cX9_wheels 13 = .ok (.iload_n 2, 1) := by decide +kernel
theorem dX9_wheels_14 : decode cX9_wheels 14 = .ok (.iconst 0, 1) := by decide +kernel
theorem dX9_wheels_15 : decode cX9_wheels 15 = .ok (.bipush 9, 2) := by decide +kernel
theorem dX9_wheels_17 : decode cX9_wheels 17 = .ok (.invokestatic 91, 3) := by decide +kernel
theorem dX9_wheels_20 : decode cX9_wheels 20 = .ok (.ifCond .eq 15, 3) := by decide +kernel
theorem dX9_wheels_23 : decode cX9_wheels 23 = .ok (.aload_n 0, 1) := by decide +kernel
theorem dX9_wheels_24 : decode cX9_wheels 24 = .ok (.getfield 26, 3) := by decide +kernel
theorem dX9_wheels_27 : decode cX9_wheels 27 = .ok (.iload_n 1, 1) := by decide +kernel
theorem dX9_wheels_28 : decode cX9_wheels 28 = .ok (.iload_n 2, 1) := by decide +kernel
theorem dX9_wheels_29 : decode cX9_wheels 29 = .ok (.invokevirtual 120, 3) := by decide +kernel
theorem dX9_wheels_32 : decode cX9_wheels 32 = .ok (.goto 5, 3) := by decide +kernel
theorem dX9_wheels_35 : decode cX9_wheels 35 = .ok (.bipush (-102), 2) := by decide +kernel
theorem dX9_wheels_37 : decode cX9_wheels 37 = .ok (.ireturn, 1) := by decide +kernel
theorem dX9_at_0 : decode cX9_at 0 = .ok (.aload_n 0, 1) := by decide +kernel
theorem dX9_at_1 : decode cX9_at 1 = .ok (.getfield 26, 3) := by decide +kernel
theorem dX9_at_4 : decode cX9_at 4 = .ok (.iload_n 1, 1) := by decide +kernel
theorem dX9_at_5 : decode cX9_at 5 = .ok (.invokevirtual 107, 3) := by decide +kernel
theorem dX9_at_8 : decode cX9_at 8 = .ok (.ifCond .eq 14, 3) := by decide +kernel
theorem dX9_at_11 : decode cX9_at 11 = .ok (.aload_n 0, 1) := by decide +kernel
theorem dX9_at_12 : decode cX9_at 12 = .ok (.getfield 26, 3) := by decide +kernel
theorem dX9_at_15 : decode cX9_at 15 = .ok (.iload_n 1, 1) := by decide +kernel
theorem dX9_at_16 : decode cX9_at 16 = .ok (.invokevirtual 123, 3) := by decide +kernel
theorem dX9_at_19 : decode cX9_at 19 = .ok (.goto 5, 3) := by decide +kernel
theorem dX9_at_22 : decode cX9_at 22 = .ok (.bipush (-101), 2) := by decide +kernel
theorem dX9_at_24 : decode cX9_at 24 = .ok (.ireturn, 1) := by decide +kernel
theorem dX9_turn_0 : decode cX9_turn 0 = .ok (.aload_n 0, 1) := by decide +kernel
theorem dX9_turn_1 : decode cX9_turn 1 = .ok (.getfield 26, 3) := by decide +kernel
theorem dX9_turn_4 : decode cX9_turn 4 = .ok (.iload_n 1, 1) := by decide +kernel
theorem dX9_turn_5 : decode cX9_turn 5 = .ok (.invokevirtual 107, 3) := by decide +kernel
theorem dX9_turn_8 : decode cX9_turn 8 = .ok (.ifCond .ne 6, 3) := by decide +kernel
theorem dX9_turn_11 : decode cX9_turn 11 = .ok (.bipush (-101), 2) := by decide +kernel
theorem dX9_turn_13 : decode cX9_turn 13 = .ok (.ireturn, 1) := by decide +kernel
theorem dX9_turn_14 : decode cX9_turn 14 = .ok (.aload_n 0, 1) := by decide +kernel
theorem dX9_turn_15 : decode cX9_turn 15 = .ok (.getfield 26, 3) := by decide +kernel
theorem dX9_turn_18 : decode cX9_turn 18 = .ok (.iload_n 1, 1) := by decide +kernel
theorem dX9_turn_19 : decode cX9_turn 19 = .ok (.invokevirtual 113, 3) := by decide +kernel
theorem dX9_turn_22 : decode cX9_turn 22 = .ok (.iconst 4, 1) := by decide +kernel
theorem dX9_turn_23 : decode cX9_turn 23 = .ok (.if_icmp .ne 6, 3) := by decide +kernel
theorem dX9_turn_26 : decode cX9_turn 26 = .ok (.bipush (-103), 2) := by decide +kernel
theorem dX9_turn_28 : decode cX9_turn 28 = .ok (.ireturn, 1) := by decide +kernel
theorem dX9_turn_29 : decode cX9_turn 29 = .ok (.aload_n 0, 1) := by decide +kernel
theorem dX9_turn_30 : decode cX9_turn 30 = .ok (.getfield 26, 3) := by decide +kernel
theorem dX9_turn_33 : decode cX9_turn 33 = .ok (.iload_n 1, 1) := by decide +kernel
theorem dX9_turn_34 : decode cX9_turn 34 = .ok (.invokevirtual 126, 3) := by decide +kernel
theorem dX9_turn_37 : decode cX9_turn 37 = .ok (.aload_n 0, 1) := by decide +kernel
theorem dX9_turn_38 : decode cX9_turn 38 = .ok (.getfield 26, 3) := by decide +kernel
theorem dX9_turn_41 : decode cX9_turn 41 = .ok (.iload_n 1, 1) := by decide +kernel
theorem dX9_turn_42 : decode cX9_turn 42 = .ok (.invokevirtual 130, 3) := by decide +kernel
theorem dX9_turn_45 : decode cX9_turn 45 = .ok (.ireturn, 1) := by decide +kernel
theorem dX9_thief_0 : decode cX9_thief 0 = .ok (.aload_n 0, 1) := by decide +kernel
theorem dX9_thief_1 : decode cX9_thief 1 = .ok (.getfield 26, 3) := by decide +kernel
theorem dX9_thief_4 : decode cX9_thief 4 = .ok (.iload_n 1, 1) := by decide +kernel
theorem dX9_thief_5 : decode cX9_thief 5 = .ok (.invokevirtual 107, 3) := by decide +kernel
theorem dX9_thief_8 : decode cX9_thief 8 = .ok (.ifCond .ne 6, 3) := by decide +kernel
theorem dX9_thief_11 : decode cX9_thief 11 = .ok (.bipush (-101), 2) := by decide +kernel
theorem dX9_thief_13 : decode cX9_thief 13 = .ok (.ireturn, 1) := by decide +kernel
theorem dX9_thief_14 : decode cX9_thief 14 = .ok (.aload_n 0, 1) := by decide +kernel
theorem dX9_thief_15 : decode cX9_thief 15 = .ok (.getfield 26, 3) := by decide +kernel
theorem dX9_thief_18 : decode cX9_thief 18 = .ok (.invokevirtual 133, 3) := by decide +kernel
theorem dX9_thief_21 : decode cX9_thief 21 = .ok (.iconst 2, 1) := by decide +kernel
theorem dX9_thief_22 : decode cX9_thief 22 = .ok (.if_icmp .gt 6, 3) := by decide +kernel
theorem dX9_thief_25 : decode cX9_thief 25 = .ok (.bipush (-103), 2) := by decide +kernel
theorem dX9_thief_27 : decode cX9_thief 27 = .ok (.ireturn, 1) := by decide +kernel
theorem dX9_thief_28 : decode cX9_thief 28 = .ok (.aload_n 0, 1) := by decide +kernel
theorem dX9_thief_29 : decode cX9_thief 29 = .ok (.getfield 26, 3) := by decide +kernel
theorem dX9_thief_32 : decode cX9_thief 32 = .ok (.iload_n 1, 1) := by decide +kernel
theorem dX9_thief_33 : decode cX9_thief 33 = .ok (.invokevirtual 136, 3) := by decide +kernel
theorem dX9_thief_36 : decode cX9_thief 36 = .ok (.aload_n 0, 1) := by decide +kernel
theorem dX9_thief_37 : decode cX9_thief 37 = .ok (.getfield 26, 3) := by decide +kernel
theorem dX9_thief_40 : decode cX9_thief 40 = .ok (.invokevirtual 133, 3) := by decide +kernel
theorem dX9_thief_43 : decode cX9_thief 43 = .ok (.ireturn, 1) := by decide +kernel
theorem dX9_lay_0 : decode cX9_lay 0 = .ok (.aload_n 0, 1) := by decide +kernel
theorem dX9_lay_1 : decode cX9_lay 1 = .ok (.invokevirtual 139, 3) := by decide +kernel
theorem dX9_lay_4 : decode cX9_lay 4 = .ok (.ifCond .eq 6, 3) := by decide +kernel
theorem dX9_lay_7 : decode cX9_lay 7 = .ok (.bipush (-103), 2) := by decide +kernel
theorem dX9_lay_9 : decode cX9_lay 9 = .ok (.ireturn, 1) := by decide +kernel
theorem dX9_lay_10 : decode cX9_lay 10 = .ok (.aload_n 0, 1) := by decide +kernel
theorem dX9_lay_11 : decode cX9_lay 11 = .ok (.getfield 36, 3) := by decide +kernel
theorem dX9_lay_14 : decode cX9_lay 14 = .ok (.iload_n 1, 1) := by decide +kernel
theorem dX9_lay_15 : decode cX9_lay 15 = .ok (.aload_n 0, 1) := by decide +kernel
theorem dX9_lay_16 : decode cX9_lay 16 = .ok (.getfield 26, 3) := by decide +kernel
theorem dX9_lay_19 : decode cX9_lay 19 = .ok (.invokevirtual 133, 3) := by decide +kernel
theorem dX9_lay_22 : decode cX9_lay 22 = .ok (.invokevirtual 142, 3) := by decide +kernel
theorem dX9_lay_25 : decode cX9_lay 25 = .ok (.ifCond .ne 6, 3) := by decide +kernel
theorem dX9_lay_28 : decode cX9_lay 28 = .ok (.bipush (-102), 2) := by decide +kernel
theorem dX9_lay_30 : decode cX9_lay 30 = .ok (.ireturn, 1) := by decide +kernel
theorem dX9_lay_31 : decode cX9_lay 31 = .ok (.aload_n 0, 1) := by decide +kernel
theorem dX9_lay_32 : decode cX9_lay 32 = .ok (.getfield 19, 3) := by decide +kernel
theorem dX9_lay_35 : decode cX9_lay 35 = .ok (.aload_n 0, 1) := by decide +kernel
theorem dX9_lay_36 : decode cX9_lay 36 = .ok (.getfield 26, 3) := by decide +kernel
theorem dX9_lay_39 : decode cX9_lay 39 = .ok (.aload_n 0, 1) := by decide +kernel
theorem dX9_lay_40 : decode cX9_lay 40 = .ok (.getfield 36, 3) := by decide +kernel
theorem dX9_lay_43 : decode cX9_lay 43 = .ok (.invokevirtual 145, 3) := by decide +kernel
theorem dX9_lay_46 : decode cX9_lay 46 = .ok (.ifCond .ne 6, 3) := by decide +kernel
theorem dX9_lay_49 : decode cX9_lay 49 = .ok (.bipush (-103), 2) := by decide +kernel
theorem dX9_lay_51 : decode cX9_lay 51 = .ok (.ireturn, 1) := by decide +kernel
theorem dX9_lay_52 : decode cX9_lay 52 = .ok (.aload_n 0, 1) := by decide +kernel
theorem dX9_lay_53 : decode cX9_lay 53 = .ok (.getfield 26, 3) := by decide +kernel
theorem dX9_lay_56 : decode cX9_lay 56 = .ok (.aload_n 0, 1) := by decide +kernel
theorem dX9_lay_57 : decode cX9_lay 57 = .ok (.getfield 36, 3) := by decide +kernel
theorem dX9_lay_60 : decode cX9_lay 60 = .ok (.aload_n 0, 1) := by decide +kernel
theorem dX9_lay_61 : decode cX9_lay 61 = .ok (.getfield 19, 3) := by decide +kernel
theorem dX9_lay_64 : decode cX9_lay 64 = .ok (.invokevirtual 149, 3) := by decide +kernel
theorem dX9_lay_67 : decode cX9_lay 67 = .ok (.invokevirtual 152, 3) := by decide +kernel
theorem dX9_lay_70 : decode cX9_lay 70 = .ok (.aload_n 0, 1) := by decide +kernel
theorem dX9_lay_71 : decode cX9_lay 71 = .ok (.getfield 26, 3) := by decide +kernel
theorem dX9_lay_74 : decode cX9_lay 74 = .ok (.invokevirtual 156, 3) := by decide +kernel
theorem dX9_lay_77 : decode cX9_lay 77 = .ok (.ireturn, 1) := by decide +kernel
theorem dX9_lawful_0 : decode cX9_lawful 0 = .ok (.aload_n 0, 1) := by decide +kernel
theorem dX9_lawful_1 : decode cX9_lawful 1 = .ok (.invokevirtual 139, 3) := by decide +kernel
theorem dX9_lawful_4 : decode cX9_lawful 4 = .ok (.ifCond .eq 6, 3) := by decide +kernel
theorem dX9_lawful_7 : decode cX9_lawful 7 = .ok (.bipush (-103), 2) := by decide +kernel
theorem dX9_lawful_9 : decode cX9_lawful 9 = .ok (.ireturn, 1) := by decide +kernel
theorem dX9_lawful_10 : decode cX9_lawful 10 = .ok (.aload_n 0, 1) := by decide +kernel
theorem dX9_lawful_11 : decode cX9_lawful 11 = .ok (.getfield 36, 3) := by decide +kernel
theorem dX9_lawful_14 : decode cX9_lawful 14 = .ok (.iload_n 1, 1) := by decide +kernel
theorem dX9_lawful_15 : decode cX9_lawful 15 = .ok (.aload_n 0, 1) := by decide +kernel
theorem dX9_lawful_16 : decode cX9_lawful 16 = .ok (.getfield 26, 3) := by decide +kernel
theorem dX9_lawful_19 : decode cX9_lawful 19 = .ok (.invokevirtual 133, 3) := by decide +kernel
theorem dX9_lawful_22 : decode cX9_lawful 22 = .ok (.invokevirtual 142, 3) := by decide +kernel
theorem dX9_lawful_25 : decode cX9_lawful 25 = .ok (.ifCond .ne 6, 3) := by decide +kernel
theorem dX9_lawful_28 : decode cX9_lawful 28 = .ok (.bipush (-102), 2) := by decide +kernel
theorem dX9_lawful_30 : decode cX9_lawful 30 = .ok (.ireturn, 1) := by decide +kernel
theorem dX9_lawful_31 : decode cX9_lawful 31 = .ok (.aload_n 0, 1) := by decide +kernel
theorem dX9_lawful_32 : decode cX9_lawful 32 = .ok (.getfield 19, 3) := by decide +kernel
theorem dX9_lawful_35 : decode cX9_lawful 35 = .ok (.aload_n 0, 1) := by decide +kernel
theorem dX9_lawful_36 : decode cX9_lawful 36 = .ok (.getfield 26, 3) := by decide +kernel
theorem dX9_lawful_39 : decode cX9_lawful 39 = .ok (.aload_n 0, 1) := by decide +kernel
theorem dX9_lawful_40 : decode cX9_lawful 40 = .ok (.getfield 36, 3) := by decide +kernel
theorem dX9_lawful_43 : decode cX9_lawful 43 = .ok (.invokevirtual 145, 3) := by decide +kernel
theorem dX9_lawful_46 : decode cX9_lawful 46 = .ok (.ifCond .eq 7, 3) := by decide +kernel
theorem dX9_lawful_49 : decode cX9_lawful 49 = .ok (.iconst 1, 1) := by decide +kernel
theorem dX9_lawful_50 : decode cX9_lawful 50 = .ok (.goto 4, 3) := by decide +kernel
theorem dX9_lawful_53 : decode cX9_lawful 53 = .ok (.iconst 0, 1) := by decide +kernel
theorem dX9_lawful_54 : decode cX9_lawful 54 = .ok (.ireturn, 1) := by decide +kernel
theorem dX9_years_0 : decode cX9_years 0 = .ok (.aload_n 0, 1) := by decide +kernel
theorem dX9_years_1 : decode cX9_years 1 = .ok (.invokevirtual 139, 3) := by decide +kernel
theorem dX9_years_4 : decode cX9_years 4 = .ok (.ifCond .eq 6, 3) := by decide +kernel
theorem dX9_years_7 : decode cX9_years 7 = .ok (.bipush (-103), 2) := by decide +kernel
theorem dX9_years_9 : decode cX9_years 9 = .ok (.ireturn, 1) := by decide +kernel
theorem dX9_years_10 : decode cX9_years 10 = .ok (.iload_n 1, 1) := by decide +kernel
theorem dX9_years_11 : decode cX9_years 11 = .ok (.iconst 1, 1) := by decide +kernel
theorem dX9_years_12 : decode cX9_years 12 = .ok (.bipush 99, 2) := by decide +kernel
theorem dX9_years_14 : decode cX9_years 14 = .ok (.invokestatic 91, 3) := by decide +kernel
theorem dX9_years_17 : decode cX9_years 17 = .ok (.ifCond .ne 6, 3) := by decide +kernel
theorem dX9_years_20 : decode cX9_years 20 = .ok (.bipush (-102), 2) := by decide +kernel
theorem dX9_years_22 : decode cX9_years 22 = .ok (.ireturn, 1) := by decide +kernel
theorem dX9_years_23 : decode cX9_years 23 = .ok (.iconst 0, 1) := by decide +kernel
theorem dX9_years_24 : decode cX9_years 24 = .ok (.istore_n 2, 1) := by decide +kernel
theorem dX9_years_25 : decode cX9_years 25 = .ok (.iload_n 2, 1) := by decide +kernel
theorem dX9_years_26 : decode cX9_years 26 = .ok (.iload_n 1, 1) := by decide +kernel
theorem dX9_years_27 : decode cX9_years 27 = .ok (.if_icmp .ge 16, 3) := by decide +kernel
theorem dX9_years_30 : decode cX9_years 30 = .ok (.aload_n 0, 1) := by decide +kernel
theorem dX9_years_31 : decode cX9_years 31 = .ok (.getfield 26, 3) := by decide +kernel
theorem dX9_years_34 : decode cX9_years 34 = .ok (.invokevirtual 159, 3) := by decide +kernel
theorem dX9_years_37 : decode cX9_years 37 = .ok (.iinc 2 1, 3) := by decide +kernel
theorem dX9_years_40 : decode cX9_years 40 = .ok (.goto (-15), 3) := by decide +kernel
theorem dX9_years_43 : decode cX9_years 43 = .ok (.aload_n 0, 1) := by decide +kernel
theorem dX9_years_44 : decode cX9_years 44 = .ok (.getfield 26, 3) := by decide +kernel
theorem dX9_years_47 : decode cX9_years 47 = .ok (.invokevirtual 156, 3) := by decide +kernel
theorem dX9_years_50 : decode cX9_years 50 = .ok (.ireturn, 1) := by decide +kernel
theorem dX9_worst_0 : decode cX9_worst 0 = .ok (.aload_n 0, 1) := by decide +kernel
theorem dX9_worst_1 : decode cX9_worst 1 = .ok (.invokevirtual 139, 3) := by decide +kernel
theorem dX9_worst_4 : decode cX9_worst 4 = .ok (.ifCond .eq 8, 3) := by decide +kernel
theorem dX9_worst_7 : decode cX9_worst 7 = .ok (.bipush (-103), 2) := by decide +kernel
theorem dX9_worst_9 : decode cX9_worst 9 = .ok (.goto 10, 3) := by decide +kernel
theorem dX9_worst_12 : decode cX9_worst 12 = .ok (.aload_n 0, 1) := by decide +kernel
theorem dX9_worst_13 : decode cX9_worst 13 = .ok (.getfield 26, 3) := by decide +kernel
theorem dX9_worst_16 : decode cX9_worst 16 = .ok (.invokevirtual 156, 3) := by decide +kernel
theorem dX9_worst_19 : decode cX9_worst 19 = .ok (.ireturn, 1) := by decide +kernel
theorem dX9_best_0 : decode cX9_best 0 = .ok (.aload_n 0, 1) := by decide +kernel
theorem dX9_best_1 : decode cX9_best 1 = .ok (.invokevirtual 139, 3) := by decide +kernel
theorem dX9_best_4 : decode cX9_best 4 = .ok (.ifCond .eq 6, 3) := by decide +kernel
theorem dX9_best_7 : decode cX9_best 7 = .ok (.bipush (-103), 2) := by decide +kernel
theorem dX9_best_9 : decode cX9_best 9 = .ok (.ireturn, 1) := by decide +kernel
theorem dX9_best_10 : decode cX9_best 10 = .ok (.iload_n 1, 1) := by decide +kernel
theorem dX9_best_11 : decode cX9_best 11 = .ok (.iconst 0, 1) := by decide +kernel
theorem dX9_best_12 : decode cX9_best 12 = .ok (.iconst 1, 1) := by decide +kernel
theorem dX9_best_13 : decode cX9_best 13 = .ok (.invokestatic 91, 3) := by decide +kernel
theorem dX9_best_16 : decode cX9_best 16 = .ok (.ifCond .ne 6, 3) := by decide +kernel
theorem dX9_best_19 : decode cX9_best 19 = .ok (.bipush (-102), 2) := by decide +kernel
theorem dX9_best_21 : decode cX9_best 21 = .ok (.ireturn, 1) := by decide +kernel
theorem dX9_best_22 : decode cX9_best 22 = .ok (.aload_n 0, 1) := by decide +kernel
theorem dX9_best_23 : decode cX9_best 23 = .ok (.getfield 162, 3) := by decide +kernel
theorem dX9_best_26 : decode cX9_best 26 = .ok (.bipush 40, 2) := by decide +kernel
theorem dX9_best_28 : decode cX9_best 28 = .ok (.if_icmp .lt 6, 3) := by decide +kernel
theorem dX9_best_31 : decode cX9_best 31 = .ok (.bipush (-103), 2) := by decide +kernel
theorem dX9_best_33 : decode cX9_best 33 = .ok (.ireturn, 1) := by decide +kernel
theorem dX9_best_34 : decode cX9_best 34 = .ok (.aload_n 0, 1) := by decide +kernel
theorem dX9_best_35 : decode cX9_best 35 = .ok (.dup, 1) := by decide +kernel
theorem dX9_best_36 : decode cX9_best 36 = .ok (.getfield 162, 3) := by decide +kernel
theorem dX9_best_39 : decode cX9_best 39 = .ok (.iconst 1, 1) := by decide +kernel
theorem dX9_best_40 : decode cX9_best 40 = .ok (.iadd, 1) := by decide +kernel
theorem dX9_best_41 : decode cX9_best 41 = .ok (.putfield 162, 3) := by decide +kernel
theorem dX9_best_44 : decode cX9_best 44 = .ok (.aload_n 0, 1) := by decide +kernel
theorem dX9_best_45 : decode cX9_best 45 = .ok (.getfield 43, 3) := by decide +kernel
theorem dX9_best_48 : decode cX9_best 48 = .ok (.aload_n 0, 1) := by decide +kernel
theorem dX9_best_49 : decode cX9_best 49 = .ok (.getfield 26, 3) := by decide +kernel
theorem dX9_best_52 : decode cX9_best 52 = .ok (.aload_n 0, 1) := by decide +kernel
theorem dX9_best_53 : decode cX9_best 53 = .ok (.getfield 19, 3) := by decide +kernel
theorem dX9_best_56 : decode cX9_best 56 = .ok (.invokevirtual 165, 3) := by decide +kernel
theorem dX9_best_59 : decode cX9_best 59 = .ok (.aload_n 0, 1) := by decide +kernel
theorem dX9_best_60 : decode cX9_best 60 = .ok (.getfield 43, 3) := by decide +kernel
theorem dX9_best_63 : decode cX9_best 63 = .ok (.invokevirtual 169, 3) := by decide +kernel
theorem dX9_best_66 : decode cX9_best 66 = .ok (.ifCond .ne 5, 3) := by decide +kernel
theorem dX9_best_69 : decode cX9_best 69 = .ok (.iconst (-1), 1) := by decide +kernel
theorem dX9_best_70 : decode cX9_best 70 = .ok (.ireturn, 1) := by decide +kernel
theorem dX9_best_71 : decode cX9_best 71 = .ok (.iload_n 1, 1) := by decide +kernel
theorem dX9_best_72 : decode cX9_best 72 = .ok (.ifCond .ne 13, 3) := by decide +kernel
theorem dX9_best_75 : decode cX9_best 75 = .ok (.aload_n 0, 1) := by decide +kernel
theorem dX9_best_76 : decode cX9_best 76 = .ok (.getfield 43, 3) := by decide +kernel
theorem dX9_best_79 : decode cX9_best 79 = .ok (.invokevirtual 172, 3) := by decide +kernel
theorem dX9_best_82 : decode cX9_best 82 = .ok (.goto 13, 3) := by decide +kernel
theorem dX9_best_85 : decode cX9_best 85 = .ok (.aload_n 0, 1) := by decide +kernel
theorem dX9_best_86 : decode cX9_best 86 = .ok (.getfield 43, 3) := by decide +kernel
theorem dX9_best_89 : decode cX9_best 89 = .ok (.invokevirtual 175, 3) := by decide +kernel
theorem dX9_best_92 : decode cX9_best 92 = .ok (.invokevirtual 179, 3) := by decide +kernel
theorem dX9_best_95 : decode cX9_best 95 = .ok (.ireturn, 1) := by decide +kernel
theorem dX9_howMany_0 : decode cX9_howMany 0 = .ok (.aload_n 0, 1) := by decide +kernel
theorem dX9_howMany_1 : decode cX9_howMany 1 = .ok (.invokevirtual 139, 3) := by decide +kernel
theorem dX9_howMany_4 : decode cX9_howMany 4 = .ok (.ifCond .ne 12, 3) := by decide +kernel
theorem dX9_howMany_7 : decode cX9_howMany 7 = .ok (.aload_n 0, 1) := by decide +kernel
theorem dX9_howMany_8 : decode cX9_howMany 8 = .ok (.getfield 162, 3) := by decide +kernel
theorem dX9_howMany_11 : decode cX9_howMany 11 = .ok (.bipush 40, 2) := by decide +kernel
theorem dX9_howMany_13 : decode cX9_howMany 13 = .ok (.if_icmp .lt 6, 3) := by decide +kernel
theorem dX9_howMany_16 : decode cX9_howMany 16 = .ok (.bipush (-103), 2) := by decide +kernel
theorem dX9_howMany_18 : decode cX9_howMany 18 = .ok (.ireturn, 1) := by decide +kernel
theorem dX9_howMany_19 : decode cX9_howMany 19 = .ok (.aload_n 0, 1) := by decide +kernel
theorem dX9_howMany_20 : decode cX9_howMany 20 = .ok (.dup, 1) := by decide +kernel
theorem dX9_howMany_21 : decode cX9_howMany 21 = .ok (.getfield 162, 3) := by decide +kernel
theorem dX9_howMany_24 : decode cX9_howMany 24 = .ok (.iconst 1, 1) := by decide +kernel
theorem dX9_howMany_25 : decode cX9_howMany 25 = .ok (.iadd, 1) := by decide +kernel
theorem dX9_howMany_26 : decode cX9_howMany 26 = .ok (.putfield 162, 3) := by decide +kernel
theorem dX9_howMany_29 : decode cX9_howMany 29 = .ok (.aload_n 0, 1) := by decide +kernel
theorem dX9_howMany_30 : decode cX9_howMany 30 = .ok (.getfield 43, 3) := by decide +kernel
theorem dX9_howMany_33 : decode cX9_howMany 33 = .ok (.aload_n 0, 1) := by decide +kernel
theorem dX9_howMany_34 : decode cX9_howMany 34 = .ok (.getfield 26, 3) := by decide +kernel
theorem dX9_howMany_37 : decode cX9_howMany 37 = .ok (.aload_n 0, 1) := by decide +kernel
theorem dX9_howMany_38 : decode cX9_howMany 38 = .ok (.getfield 19, 3) := by decide +kernel
theorem dX9_howMany_41 : decode cX9_howMany 41 = .ok (.invokevirtual 165, 3) := by decide +kernel
theorem dX9_howMany_44 : decode cX9_howMany 44 = .ok (.aload_n 0, 1) := by decide +kernel
theorem dX9_howMany_45 : decode cX9_howMany 45 = .ok (.getfield 43, 3) := by decide +kernel
theorem dX9_howMany_48 : decode cX9_howMany 48 = .ok (.invokevirtual 169, 3) := by decide +kernel
theorem dX9_howMany_51 : decode cX9_howMany 51 = .ok (.ireturn, 1) := by decide +kernel
theorem dX9_carried_0 : decode cX9_carried 0 = .ok (.aload_n 0, 1) := by decide +kernel
theorem dX9_carried_1 : decode cX9_carried 1 = .ok (.invokevirtual 139, 3) := by decide +kernel
theorem dX9_carried_4 : decode cX9_carried 4 = .ok (.ifCond .eq 6, 3) := by decide +kernel
theorem dX9_carried_7 : decode cX9_carried 7 = .ok (.bipush (-103), 2) := by decide +kernel
theorem dX9_carried_9 : decode cX9_carried 9 = .ok (.ireturn, 1) := by decide +kernel
theorem dX9_carried_10 : decode cX9_carried 10 = .ok (.aload_n 0, 1) := by decide +kernel
theorem dX9_carried_11 : decode cX9_carried 11 = .ok (.getfield 36, 3) := by decide +kernel
theorem dX9_carried_14 : decode cX9_carried 14 = .ok (.iload_n 1, 1) := by decide +kernel
theorem dX9_carried_15 : decode cX9_carried 15 = .ok (.aload_n 0, 1) := by decide +kernel
theorem dX9_carried_16 : decode cX9_carried 16 = .ok (.getfield 26, 3) := by decide +kernel
theorem dX9_carried_19 : decode cX9_carried 19 = .ok (.invokevirtual 133, 3) := by decide +kernel
theorem dX9_carried_22 : decode cX9_carried 22 = .ok (.invokevirtual 142, 3) := by decide +kernel
theorem dX9_carried_25 : decode cX9_carried 25 = .ok (.ifCond .eq 12, 3) := by decide +kernel
theorem dX9_carried_28 : decode cX9_carried 28 = .ok (.iload_n 2, 1) := by decide +kernel
theorem dX9_carried_29 : decode cX9_carried 29 = .ok (.iconst 0, 1) := by decide +kernel
theorem dX9_carried_30 : decode cX9_carried 30 = .ok (.iconst 2, 1) := by decide +kernel
theorem dX9_carried_31 : decode cX9_carried 31 = .ok (.invokestatic 91, 3) := by decide +kernel
theorem dX9_carried_34 : decode cX9_carried 34 = .ok (.ifCond .ne 6, 3) := by decide +kernel
theorem dX9_carried_37 : decode cX9_carried 37 = .ok (.bipush (-102), 2) := by decide +kernel
theorem dX9_carried_39 : decode cX9_carried 39 = .ok (.ireturn, 1) := by decide +kernel
theorem dX9_carried_40 : decode cX9_carried 40 = .ok (.aload_n 0, 1) := by decide +kernel
theorem dX9_carried_41 : decode cX9_carried 41 = .ok (.getfield 26, 3) := by decide +kernel
theorem dX9_carried_44 : decode cX9_carried 44 = .ok (.aload_n 0, 1) := by decide +kernel
theorem dX9_carried_45 : decode cX9_carried 45 = .ok (.getfield 36, 3) := by decide +kernel
theorem dX9_carried_48 : decode cX9_carried 48 = .ok (.iload_n 2, 1) := by decide +kernel
theorem dX9_carried_49 : decode cX9_carried 49 = .ok (.invokestatic 181, 3) := by decide +kernel
theorem dX9_carried_52 : decode cX9_carried 52 = .ok (.ireturn, 1) := by decide +kernel
theorem dX9_flood_0 : decode cX9_flood 0 = .ok (.aload_n 0, 1) := by decide +kernel
theorem dX9_flood_1 : decode cX9_flood 1 = .ok (.invokevirtual 139, 3) := by decide +kernel
theorem dX9_flood_4 : decode cX9_flood 4 = .ok (.ifCond .eq 6, 3) := by decide +kernel
theorem dX9_flood_7 : decode cX9_flood 7 = .ok (.bipush (-103), 2) := by decide +kernel
theorem dX9_flood_9 : decode cX9_flood 9 = .ok (.ireturn, 1) := by decide +kernel
theorem dX9_flood_10 : decode cX9_flood 10 = .ok (.iload_n 1, 1) := by decide +kernel
theorem dX9_flood_11 : decode cX9_flood 11 = .ok (.ifCond .ge 8, 3) := by decide +kernel
theorem dX9_flood_14 : decode cX9_flood 14 = .ok (.bipush (-102), 2) := by decide +kernel
theorem dX9_flood_16 : decode cX9_flood 16 = .ok (.goto 11, 3) := by decide +kernel
theorem dX9_flood_19 : decode cX9_flood 19 = .ok (.aload_n 0, 1) := by decide +kernel
theorem dX9_flood_20 : decode cX9_flood 20 = .ok (.getfield 26, 3) := by decide +kernel
theorem dX9_flood_23 : decode cX9_flood 23 = .ok (.iload_n 1, 1) := by decide +kernel
theorem dX9_flood_24 : decode cX9_flood 24 = .ok (.invokestatic 186, 3) := by decide +kernel
theorem dX9_flood_27 : decode cX9_flood 27 = .ok (.ireturn, 1) := by decide +kernel
theorem dX9_looks_0 : decode cX9_looks 0 = .ok (.aload_n 0, 1) := by decide +kernel
theorem dX9_looks_1 : decode cX9_looks 1 = .ok (.invokevirtual 139, 3) := by decide +kernel
theorem dX9_looks_4 : decode cX9_looks 4 = .ok (.ifCond .eq 8, 3) := by decide +kernel
theorem dX9_looks_7 : decode cX9_looks 7 = .ok (.bipush (-103), 2) := by decide +kernel
theorem dX9_looks_9 : decode cX9_looks 9 = .ok (.goto 10, 3) := by decide +kernel
theorem dX9_looks_12 : decode cX9_looks 12 = .ok (.aload_n 0, 1) := by decide +kernel
theorem dX9_looks_13 : decode cX9_looks 13 = .ok (.getfield 26, 3) := by decide +kernel
theorem dX9_looks_16 : decode cX9_looks 16 = .ok (.invokevirtual 192, 3) := by decide +kernel
theorem dX9_looks_19 : decode cX9_looks 19 = .ok (.ireturn, 1) := by decide +kernel
theorem dX9_was_0 : decode cX9_was 0 = .ok (.aload_n 0, 1) := by decide +kernel
theorem dX9_was_1 : decode cX9_was 1 = .ok (.getfield 26, 3) := by decide +kernel
theorem dX9_was_4 : decode cX9_was 4 = .ok (.iload_n 1, 1) := by decide +kernel
theorem dX9_was_5 : decode cX9_was 5 = .ok (.invokevirtual 107, 3) := by decide +kernel
theorem dX9_was_8 : decode cX9_was 8 = .ok (.ifCond .ne 6, 3) := by decide +kernel
theorem dX9_was_11 : decode cX9_was 11 = .ok (.bipush (-101), 2) := by decide +kernel
theorem dX9_was_13 : decode cX9_was 13 = .ok (.ireturn, 1) := by decide +kernel
theorem dX9_was_14 : decode cX9_was 14 = .ok (.iload_n 2, 1) := by decide +kernel
theorem dX9_was_15 : decode cX9_was 15 = .ok (.iconst (-1), 1) := by decide +kernel
theorem dX9_was_16 : decode cX9_was 16 = .ok (.sipush 999, 3) := by decide +kernel
theorem dX9_was_19 : decode cX9_was 19 = .ok (.invokestatic 91, 3) := by decide +kernel
theorem dX9_was_22 : decode cX9_was 22 = .ok (.ifCond .eq 15, 3) := by decide +kernel
theorem dX9_was_25 : decode cX9_was 25 = .ok (.aload_n 0, 1) := by decide +kernel
theorem dX9_was_26 : decode cX9_was 26 = .ok (.getfield 26, 3) := by decide +kernel
theorem dX9_was_29 : decode cX9_was 29 = .ok (.iload_n 1, 1) := by decide +kernel
theorem dX9_was_30 : decode cX9_was 30 = .ok (.iload_n 2, 1) := by decide +kernel
theorem dX9_was_31 : decode cX9_was 31 = .ok (.invokevirtual 195, 3) := by decide +kernel
theorem dX9_was_34 : decode cX9_was 34 = .ok (.goto 5, 3) := by decide +kernel
theorem dX9_was_37 : decode cX9_was 37 = .ok (.bipush (-102), 2) := by decide +kernel
theorem dX9_was_39 : decode cX9_was 39 = .ok (.ireturn, 1) := by decide +kernel
theorem dX9_last_0 : decode cX9_last 0 = .ok (.aload_n 0, 1) := by decide +kernel
theorem dX9_last_1 : decode cX9_last 1 = .ok (.invokevirtual 139, 3) := by decide +kernel
theorem dX9_last_4 : decode cX9_last 4 = .ok (.ifCond .eq 6, 3) := by decide +kernel
theorem dX9_last_7 : decode cX9_last 7 = .ok (.bipush (-103), 2) := by decide +kernel
theorem dX9_last_9 : decode cX9_last 9 = .ok (.ireturn, 1) := by decide +kernel
theorem dX9_last_10 : decode cX9_last 10 = .ok (.iload_n 1, 1) := by decide +kernel
theorem dX9_last_11 : decode cX9_last 11 = .ok (.iconst 0, 1) := by decide +kernel
theorem dX9_last_12 : decode cX9_last 12 = .ok (.iconst 1, 1) := by decide +kernel
theorem dX9_last_13 : decode cX9_last 13 = .ok (.invokestatic 91, 3) := by decide +kernel
theorem dX9_last_16 : decode cX9_last 16 = .ok (.ifCond .ne 6, 3) := by decide +kernel
theorem dX9_last_19 : decode cX9_last 19 = .ok (.bipush (-102), 2) := by decide +kernel
theorem dX9_last_21 : decode cX9_last 21 = .ok (.ireturn, 1) := by decide +kernel
theorem dX9_last_22 : decode cX9_last 22 = .ok (.aload_n 0, 1) := by decide +kernel
theorem dX9_last_23 : decode cX9_last 23 = .ok (.getfield 198, 3) := by decide +kernel
theorem dX9_last_26 : decode cX9_last 26 = .ok (.bipush 40, 2) := by decide +kernel
theorem dX9_last_28 : decode cX9_last 28 = .ok (.if_icmp .lt 6, 3) := by decide +kernel
theorem dX9_last_31 : decode cX9_last 31 = .ok (.bipush (-103), 2) := by decide +kernel
theorem dX9_last_33 : decode cX9_last 33 = .ok (.ireturn, 1) := by decide +kernel
theorem dX9_last_34 : decode cX9_last 34 = .ok (.aload_n 0, 1) := by decide +kernel
theorem dX9_last_35 : decode cX9_last 35 = .ok (.dup, 1) := by decide +kernel
theorem dX9_last_36 : decode cX9_last 36 = .ok (.getfield 198, 3) := by decide +kernel
theorem dX9_last_39 : decode cX9_last 39 = .ok (.iconst 1, 1) := by decide +kernel
theorem dX9_last_40 : decode cX9_last 40 = .ok (.iadd, 1) := by decide +kernel
theorem dX9_last_41 : decode cX9_last 41 = .ok (.putfield 198, 3) := by decide +kernel
theorem dX9_last_44 : decode cX9_last 44 = .ok (.aload_n 0, 1) := by decide +kernel
theorem dX9_last_45 : decode cX9_last 45 = .ok (.getfield 50, 3) := by decide +kernel
theorem dX9_last_48 : decode cX9_last 48 = .ok (.aload_n 0, 1) := by decide +kernel
theorem dX9_last_49 : decode cX9_last 49 = .ok (.getfield 26, 3) := by decide +kernel
theorem dX9_last_52 : decode cX9_last 52 = .ok (.invokevirtual 201, 3) := by decide +kernel
theorem dX9_last_55 : decode cX9_last 55 = .ok (.iload_n 1, 1) := by decide +kernel
theorem dX9_last_56 : decode cX9_last 56 = .ok (.ifCond .ne 11, 3) := by decide +kernel
theorem dX9_last_59 : decode cX9_last 59 = .ok (.aload_n 0, 1) := by decide +kernel
theorem dX9_last_60 : decode cX9_last 60 = .ok (.getfield 50, 3) := by decide +kernel
theorem dX9_last_63 : decode cX9_last 63 = .ok (.invokevirtual 204, 3) := by decide +kernel
theorem dX9_last_66 : decode cX9_last 66 = .ok (.ireturn, 1) := by decide +kernel
theorem dX9_last_67 : decode cX9_last 67 = .ok (.aload_n 0, 1) := by decide +kernel
theorem dX9_last_68 : decode cX9_last 68 = .ok (.getfield 50, 3) := by decide +kernel
theorem dX9_last_71 : decode cX9_last 71 = .ok (.invokevirtual 204, 3) := by decide +kernel
theorem dX9_last_74 : decode cX9_last 74 = .ok (.ifCond .ne 7, 3) := by decide +kernel
theorem dX9_last_77 : decode cX9_last 77 = .ok (.iconst (-1), 1) := by decide +kernel
theorem dX9_last_78 : decode cX9_last 78 = .ok (.goto 13, 3) := by decide +kernel
theorem dX9_last_81 : decode cX9_last 81 = .ok (.aload_n 0, 1) := by decide +kernel
theorem dX9_last_82 : decode cX9_last 82 = .ok (.getfield 50, 3) := by decide +kernel
theorem dX9_last_85 : decode cX9_last 85 = .ok (.invokevirtual 205, 3) := by decide +kernel
theorem dX9_last_88 : decode cX9_last 88 = .ok (.invokevirtual 179, 3) := by decide +kernel
theorem dX9_last_91 : decode cX9_last 91 = .ok (.ireturn, 1) := by decide +kernel
theorem dX9_sure_0 : decode cX9_sure 0 = .ok (.aload_n 0, 1) := by decide +kernel
theorem dX9_sure_1 : decode cX9_sure 1 = .ok (.getfield 26, 3) := by decide +kernel
theorem dX9_sure_4 : decode cX9_sure 4 = .ok (.iload_n 1, 1) := by decide +kernel
theorem dX9_sure_5 : decode cX9_sure 5 = .ok (.invokevirtual 107, 3) := by decide +kernel
theorem dX9_sure_8 : decode cX9_sure 8 = .ok (.ifCond .ne 6, 3) := by decide +kernel
theorem dX9_sure_11 : decode cX9_sure 11 = .ok (.bipush (-101), 2) := by decide +kernel
theorem dX9_sure_13 : decode cX9_sure 13 = .ok (.ireturn, 1) := by decide +kernel
theorem dX9_sure_14 : decode cX9_sure 14 = .ok (.aload_n 0, 1) := by decide +kernel
theorem dX9_sure_15 : decode cX9_sure 15 = .ok (.invokevirtual 139, 3) := by decide +kernel
theorem dX9_sure_18 : decode cX9_sure 18 = .ok (.ifCond .ne 12, 3) := by decide +kernel
theorem dX9_sure_21 : decode cX9_sure 21 = .ok (.aload_n 0, 1) := by decide +kernel
theorem dX9_sure_22 : decode cX9_sure 22 = .ok (.getfield 198, 3) := by decide +kernel
theorem dX9_sure_25 : decode cX9_sure 25 = .ok (.bipush 40, 2) := by decide +kernel
theorem dX9_sure_27 : decode cX9_sure 27 = .ok (.if_icmp .lt 6, 3) := by decide +kernel
theorem dX9_sure_30 : decode cX9_sure 30 = .ok (.bipush (-103), 2) := by decide +kernel
theorem dX9_sure_32 : decode cX9_sure 32 = .ok (.ireturn, 1) := by decide +kernel
theorem dX9_sure_33 : decode cX9_sure 33 = .ok (.aload_n 0, 1) := by decide +kernel
theorem dX9_sure_34 : decode cX9_sure 34 = .ok (.dup, 1) := by decide +kernel
theorem dX9_sure_35 : decode cX9_sure 35 = .ok (.getfield 198, 3) := by decide +kernel
theorem dX9_sure_38 : decode cX9_sure 38 = .ok (.iconst 1, 1) := by decide +kernel
theorem dX9_sure_39 : decode cX9_sure 39 = .ok (.iadd, 1) := by decide +kernel
theorem dX9_sure_40 : decode cX9_sure 40 = .ok (.putfield 198, 3) := by decide +kernel
theorem dX9_sure_43 : decode cX9_sure 43 = .ok (.aload_n 0, 1) := by decide +kernel
theorem dX9_sure_44 : decode cX9_sure 44 = .ok (.getfield 50, 3) := by decide +kernel
theorem dX9_sure_47 : decode cX9_sure 47 = .ok (.aload_n 0, 1) := by decide +kernel
theorem dX9_sure_48 : decode cX9_sure 48 = .ok (.getfield 26, 3) := by decide +kernel
theorem dX9_sure_51 : decode cX9_sure 51 = .ok (.invokevirtual 201, 3) := by decide +kernel
theorem dX9_sure_54 : decode cX9_sure 54 = .ok (.aload_n 0, 1) := by decide +kernel
theorem dX9_sure_55 : decode cX9_sure 55 = .ok (.getfield 50, 3) := by decide +kernel
theorem dX9_sure_58 : decode cX9_sure 58 = .ok (.iload_n 1, 1) := by decide +kernel
theorem dX9_sure_59 : decode cX9_sure 59 = .ok (.invokevirtual 208, 3) := by decide +kernel
theorem dX9_sure_62 : decode cX9_sure 62 = .ok (.ireturn, 1) := by decide +kernel
theorem dX9_springs_0 : decode cX9_springs 0 = .ok (.aload_n 0, 1) := by decide +kernel
theorem dX9_springs_1 : decode cX9_springs 1 = .ok (.invokevirtual 139, 3) := by decide +kernel
theorem dX9_springs_4 : decode cX9_springs 4 = .ok (.ifCond .eq 6, 3) := by decide +kernel
theorem dX9_springs_7 : decode cX9_springs 7 = .ok (.bipush (-103), 2) := by decide +kernel
theorem dX9_springs_9 : decode cX9_springs 9 = .ok (.ireturn, 1) := by decide +kernel
theorem dX9_springs_10 : decode cX9_springs 10 = .ok (.iload_n 1, 1) := by decide +kernel
theorem dX9_springs_11 : decode cX9_springs 11 = .ok (.iconst 1, 1) := by decide +kernel
theorem dX9_springs_12 : decode cX9_springs 12 = .ok (.bipush 12, 2) := by decide +kernel
theorem dX9_springs_14 : decode cX9_springs 14 = .ok (.invokestatic 91, 3) := by decide +kernel
theorem dX9_springs_17 : decode cX9_springs 17 = .ok (.ifCond .eq 12, 3) := by decide +kernel
theorem dX9_springs_20 : decode cX9_springs 20 = .ok (.iload_n 2, 1) := by decide +kernel
theorem dX9_springs_21 : decode cX9_springs 21 = .ok (.iconst 0, 1) := by decide +kernel
theorem dX9_springs_22 : decode cX9_springs 22 = .ok (.iconst 2, 1) := by decide +kernel
theorem dX9_springs_23 : decode cX9_springs 23 = .ok (.invokestatic 91, 3) := by decide +kernel
theorem dX9_springs_26 : decode cX9_springs 26 = .ok (.ifCond .ne 6, 3) := by decide +kernel
theorem dX9_springs_29 : decode cX9_springs 29 = .ok (.bipush (-102), 2) := by decide +kernel
theorem dX9_springs_31 : decode cX9_springs 31 = .ok (.ireturn, 1) := by decide +kernel
theorem dX9_springs_32 : decode cX9_springs 32 = .ok (.aload_n 0, 1) := by decide +kernel
theorem dX9_springs_33 : decode cX9_springs 33 = .ok (.getfield 211, 3) := by decide +kernel
theorem dX9_springs_36 : decode cX9_springs 36 = .ok (.bipush 10, 2) := by decide +kernel
theorem dX9_springs_38 : decode cX9_springs 38 = .ok (.if_icmp .lt 6, 3) := by decide +kernel
theorem dX9_springs_41 : decode cX9_springs 41 = .ok (.bipush (-103), 2) := by decide +kernel
theorem dX9_springs_43 : decode cX9_springs 43 = .ok (.ireturn, 1) := by decide +kernel
theorem dX9_springs_44 : decode cX9_springs 44 = .ok (.aload_n 0, 1) := by decide +kernel
theorem dX9_springs_45 : decode cX9_springs 45 = .ok (.dup, 1) := by decide +kernel
theorem dX9_springs_46 : decode cX9_springs 46 = .ok (.getfield 211, 3) := by decide +kernel
theorem dX9_springs_49 : decode cX9_springs 49 = .ok (.iconst 1, 1) := by decide +kernel
theorem dX9_springs_50 : decode cX9_springs 50 = .ok (.iadd, 1) := by decide +kernel
theorem dX9_springs_51 : decode cX9_springs 51 = .ok (.putfield 211, 3) := by decide +kernel
theorem dX9_springs_54 : decode cX9_springs 54 = .ok (.aload_n 0, 1) := by decide +kernel
theorem dX9_springs_55 : decode cX9_springs 55 = .ok (.getfield 57, 3) := by decide +kernel
theorem dX9_springs_58 : decode cX9_springs 58 = .ok (.aload_n 0, 1) := by decide +kernel
theorem dX9_springs_59 : decode cX9_springs 59 = .ok (.getfield 26, 3) := by decide +kernel
theorem dX9_springs_62 : decode cX9_springs 62 = .ok (.aload_n 0, 1) := by decide +kernel
theorem dX9_springs_63 : decode cX9_springs 63 = .ok (.getfield 19, 3) := by decide +kernel
theorem dX9_springs_66 : decode cX9_springs 66 = .ok (.aload_n 0, 1) := by decide +kernel
theorem dX9_springs_67 : decode cX9_springs 67 = .ok (.getfield 43, 3) := by decide +kernel
theorem dX9_springs_70 : decode cX9_springs 70 = .ok (.iload_n 1, 1) := by decide +kernel
theorem dX9_springs_71 : decode cX9_springs 71 = .ok (.invokevirtual 214, 3) := by decide +kernel
theorem dX9_springs_74 : decode cX9_springs 74 = .ok (.aload_n 0, 1) := by decide +kernel
theorem dX9_springs_75 : decode cX9_springs 75 = .ok (.getfield 57, 3) := by decide +kernel
theorem dX9_springs_78 : decode cX9_springs 78 = .ok (.iload_n 2, 1) := by decide +kernel
theorem dX9_springs_79 : decode cX9_springs 79 = .ok (.invokevirtual 218, 3) := by decide +kernel
theorem dX9_springs_82 : decode cX9_springs 82 = .ok (.ireturn, 1) := by decide +kernel
theorem dX9_image_0 : decode cX9_image 0 = .ok (.aload_n 0, 1) := by decide +kernel
theorem dX9_image_1 : decode cX9_image 1 = .ok (.getfield 30, 3) := by decide +kernel
theorem dX9_image_4 : decode cX9_image 4 = .ok (.aload_n 0, 1) := by decide +kernel
theorem dX9_image_5 : decode cX9_image 5 = .ok (.getfield 26, 3) := by decide +kernel
theorem dX9_image_8 : decode cX9_image 8 = .ok (.invokevirtual 219, 3) := by decide +kernel
theorem dX9_image_11 : decode cX9_image 11 = .ok (.aload_n 0, 1) := by decide +kernel
theorem dX9_image_12 : decode cX9_image 12 = .ok (.iconst 1, 1) := by decide +kernel
theorem dX9_image_13 : decode cX9_image 13 = .ok (.putfield 222, 3) := by decide +kernel
theorem dX9_image_16 : decode cX9_image 16 = .ok (.aload_n 0, 1) := by decide +kernel
theorem dX9_image_17 : decode cX9_image 17 = .ok (.getfield 26, 3) := by decide +kernel
theorem dX9_image_20 : decode cX9_image 20 = .ok (.invokevirtual 133, 3) := by decide +kernel
theorem dX9_image_23 : decode cX9_image 23 = .ok (.ireturn, 1) := by decide +kernel
theorem dX9_restore_0 : decode cX9_restore 0 = .ok (.aload_n 0, 1) := by decide +kernel
theorem dX9_restore_1 : decode cX9_restore 1 = .ok (.getfield 222, 3) := by decide +kernel
theorem dX9_restore_4 : decode cX9_restore 4 = .ok (.ifCond .ne 6, 3) := by decide +kernel
theorem dX9_restore_7 : decode cX9_restore 7 = .ok (.bipush (-103), 2) := by decide +kernel
theorem dX9_restore_9 : decode cX9_restore 9 = .ok (.ireturn, 1) := by decide +kernel
theorem dX9_restore_10 : decode cX9_restore 10 = .ok (.aload_n 0, 1) := by decide +kernel
theorem dX9_restore_11 : decode cX9_restore 11 = .ok (.getfield 26, 3) := by decide +kernel
theorem dX9_restore_14 : decode cX9_restore 14 = .ok (.aload_n 0, 1) := by decide +kernel
theorem dX9_restore_15 : decode cX9_restore 15 = .ok (.getfield 30, 3) := by decide +kernel
theorem dX9_restore_18 : decode cX9_restore 18 = .ok (.invokevirtual 219, 3) := by decide +kernel
theorem dX9_restore_21 : decode cX9_restore 21 = .ok (.aload_n 0, 1) := by decide +kernel
theorem dX9_restore_22 : decode cX9_restore 22 = .ok (.getfield 26, 3) := by decide +kernel
theorem dX9_restore_25 : decode cX9_restore 25 = .ok (.invokevirtual 133, 3) := by decide +kernel
theorem dX9_restore_28 : decode cX9_restore 28 = .ok (.ireturn, 1) := by decide +kernel
theorem dX9_count_0 : decode cX9_count 0 = .ok (.iload_n 1, 1) := by decide +kernel
theorem dX9_count_1 : decode cX9_count 1 = .ok (.tableswitch 87 0 6 #[43, 51, 59, 64, 69, 74, 79], 43) := by decide +kernel
theorem dX9_count_44 : decode cX9_count 44 = .ok (.aload_n 0, 1) := by decide +kernel
theorem dX9_count_45 : decode cX9_count 45 = .ok (.getfield 26, 3) := by decide +kernel
theorem dX9_count_48 : decode cX9_count 48 = .ok (.invokevirtual 133, 3) := by decide +kernel
theorem dX9_count_51 : decode cX9_count 51 = .ok (.ireturn, 1) := by decide +kernel
theorem dX9_count_52 : decode cX9_count 52 = .ok (.aload_n 0, 1) := by decide +kernel
theorem dX9_count_53 : decode cX9_count 53 = .ok (.getfield 10, 3) := by decide +kernel
theorem dX9_count_56 : decode cX9_count 56 = .ok (.invokevirtual 65, 3) := by decide +kernel
theorem dX9_count_59 : decode cX9_count 59 = .ok (.ireturn, 1) := by decide +kernel
theorem dX9_count_60 : decode cX9_count 60 = .ok (.aload_n 0, 1) := by decide +kernel
theorem dX9_count_61 : decode cX9_count 61 = .ok (.getfield 87, 3) := by decide +kernel
theorem dX9_count_64 : decode cX9_count 64 = .ok (.ireturn, 1) := by decide +kernel
theorem dX9_count_65 : decode cX9_count 65 = .ok (.aload_n 0, 1) := by decide +kernel
theorem dX9_count_66 : decode cX9_count 66 = .ok (.getfield 162, 3) := by decide +kernel
theorem dX9_count_69 : decode cX9_count 69 = .ok (.ireturn, 1) := by decide +kernel
theorem dX9_count_70 : decode cX9_count 70 = .ok (.aload_n 0, 1) := by decide +kernel
theorem dX9_count_71 : decode cX9_count 71 = .ok (.getfield 198, 3) := by decide +kernel
theorem dX9_count_74 : decode cX9_count 74 = .ok (.ireturn, 1) := by decide +kernel
theorem dX9_count_75 : decode cX9_count 75 = .ok (.aload_n 0, 1) := by decide +kernel
theorem dX9_count_76 : decode cX9_count 76 = .ok (.getfield 211, 3) := by decide +kernel
theorem dX9_count_79 : decode cX9_count 79 = .ok (.ireturn, 1) := by decide +kernel
theorem dX9_count_80 : decode cX9_count 80 = .ok (.aload_n 0, 1) := by decide +kernel
theorem dX9_count_81 : decode cX9_count 81 = .ok (.getfield 26, 3) := by decide +kernel
theorem dX9_count_84 : decode cX9_count 84 = .ok (.invokevirtual 226, 3) := by decide +kernel
theorem dX9_count_87 : decode cX9_count 87 = .ok (.ireturn, 1) := by decide +kernel
theorem dX9_count_88 : decode cX9_count 88 = .ok (.bipush (-102), 2) := by decide +kernel
theorem dX9_count_90 : decode cX9_count 90 = .ok (.ireturn, 1) := by decide +kernel
theorem dX9_digest_0 : decode cX9_digest 0 = .ok (.ldc2_w 229, 3) := by decide +kernel
theorem dX9_digest_3 : decode cX9_digest 3 = .ok (.lstore_n 1, 1) := by decide +kernel
theorem dX9_digest_4 : decode cX9_digest 4 = .ok (.iconst 0, 1) := by decide +kernel
theorem dX9_digest_5 : decode cX9_digest 5 = .ok (.istore_n 3, 1) := by decide +kernel
theorem dX9_digest_6 : decode cX9_digest 6 = .ok (.iload_n 3, 1) := by decide +kernel
theorem dX9_digest_7 : decode cX9_digest 7 = .ok (.iconst 3, 1) := by decide +kernel
theorem dX9_digest_8 : decode cX9_digest 8 = .ok (.if_icmp .gt 23, 3) := by decide +kernel
theorem dX9_digest_11 : decode cX9_digest 11 = .ok (.lload_n 1, 1) := by decide +kernel
theorem dX9_digest_12 : decode cX9_digest 12 = .ok (.aload_n 0, 1) := by decide +kernel
theorem dX9_digest_13 : decode cX9_digest 13 = .ok (.getfield 19, 3) := by decide +kernel
theorem dX9_digest_16 : decode cX9_digest 16 = .ok (.iload_n 3, 1) := by decide +kernel
theorem dX9_digest_17 : decode cX9_digest 17 = .ok (.invokevirtual 95, 3) := by decide +kernel
theorem dX9_digest_20 : decode cX9_digest 20 = .ok (.i2l, 1) := by decide +kernel
theorem dX9_digest_21 : decode cX9_digest 21 = .ok (.invokestatic 231, 3) := by decide +kernel
theorem dX9_digest_24 : decode cX9_digest 24 = .ok (.lstore_n 1, 1) := by decide +kernel
theorem dX9_digest_25 : decode cX9_digest 25 = .ok (.iinc 3 1, 3) := by decide +kernel
theorem dX9_digest_28 : decode cX9_digest 28 = .ok (.goto (-22), 3) := by decide +kernel
theorem dX9_digest_31 : decode cX9_digest 31 = .ok (.aload_n 0, 1) := by decide +kernel
theorem dX9_digest_32 : decode cX9_digest 32 = .ok (.lload_n 1, 1) := by decide +kernel
theorem dX9_digest_33 : decode cX9_digest 33 = .ok (.invokevirtual 235, 3) := by decide +kernel
theorem dX9_digest_36 : decode cX9_digest 36 = .ok (.lstore_n 1, 1) := by decide +kernel
theorem dX9_digest_37 : decode cX9_digest 37 = .ok (.iconst 0, 1) := by decide +kernel
theorem dX9_digest_38 : decode cX9_digest 38 = .ok (.istore_n 3, 1) := by decide +kernel
theorem dX9_digest_39 : decode cX9_digest 39 = .ok (.iload_n 3, 1) := by decide +kernel
theorem dX9_digest_40 : decode cX9_digest 40 = .ok (.bipush 7, 2) := by decide +kernel
theorem dX9_digest_42 : decode cX9_digest 42 = .ok (.if_icmp .ge 23, 3) := by decide +kernel
theorem dX9_digest_45 : decode cX9_digest 45 = .ok (.lload_n 1, 1) := by decide +kernel
theorem dX9_digest_46 : decode cX9_digest 46 = .ok (.aload_n 0, 1) := by decide +kernel
theorem dX9_digest_47 : decode cX9_digest 47 = .ok (.getfield 26, 3) := by decide +kernel
theorem dX9_digest_50 : decode cX9_digest 50 = .ok (.iload_n 3, 1) := by decide +kernel
theorem dX9_digest_51 : decode cX9_digest 51 = .ok (.invokevirtual 239, 3) := by decide +kernel
theorem dX9_digest_54 : decode cX9_digest 54 = .ok (.i2l, 1) := by decide +kernel
theorem dX9_digest_55 : decode cX9_digest 55 = .ok (.invokestatic 231, 3) := by decide +kernel
theorem dX9_digest_58 : decode cX9_digest 58 = .ok (.lstore_n 1, 1) := by decide +kernel
theorem dX9_digest_59 : decode cX9_digest 59 = .ok (.iinc 3 1, 3) := by decide +kernel
theorem dX9_digest_62 : decode cX9_digest 62 = .ok (.goto (-23), 3) := by decide +kernel
theorem dX9_digest_65 : decode cX9_digest 65 = .ok (.aload_n 0, 1) := by decide +kernel
theorem dX9_digest_66 : decode cX9_digest 66 = .ok (.invokevirtual 139, 3) := by decide +kernel
theorem dX9_digest_69 : decode cX9_digest 69 = .ok (.ifCond .ne 9, 3) := by decide +kernel
theorem dX9_digest_72 : decode cX9_digest 72 = .ok (.aload_n 0, 1) := by decide +kernel
theorem dX9_digest_73 : decode cX9_digest 73 = .ok (.lload_n 1, 1) := by decide +kernel
theorem dX9_digest_74 : decode cX9_digest 74 = .ok (.invokevirtual 242, 3) := by decide +kernel
theorem dX9_digest_77 : decode cX9_digest 77 = .ok (.lstore_n 1, 1) := by decide +kernel
theorem dX9_digest_78 : decode cX9_digest 78 = .ok (.iconst 0, 1) := by decide +kernel
theorem dX9_digest_79 : decode cX9_digest 79 = .ok (.istore_n 3, 1) := by decide +kernel
theorem dX9_digest_80 : decode cX9_digest 80 = .ok (.iload_n 3, 1) := by decide +kernel
theorem dX9_digest_81 : decode cX9_digest 81 = .ok (.aload_n 0, 1) := by decide +kernel
theorem dX9_digest_82 : decode cX9_digest 82 = .ok (.getfield 10, 3) := by decide +kernel
theorem dX9_digest_85 : decode cX9_digest 85 = .ok (.invokevirtual 65, 3) := by decide +kernel
theorem dX9_digest_88 : decode cX9_digest 88 = .ok (.if_icmp .ge 23, 3) := by decide +kernel
theorem dX9_digest_91 : decode cX9_digest 91 = .ok (.lload_n 1, 1) := by decide +kernel
theorem dX9_digest_92 : decode cX9_digest 92 = .ok (.aload_n 0, 1) := by decide +kernel
theorem dX9_digest_93 : decode cX9_digest 93 = .ok (.getfield 10, 3) := by decide +kernel
theorem dX9_digest_96 : decode cX9_digest 96 = .ok (.iload_n 3, 1) := by decide +kernel
theorem dX9_digest_97 : decode cX9_digest 97 = .ok (.invokevirtual 245, 3) := by decide +kernel
theorem dX9_digest_100 : decode cX9_digest 100 = .ok (.i2l, 1) := by decide +kernel
theorem dX9_digest_101 : decode cX9_digest 101 = .ok (.invokestatic 231, 3) := by decide +kernel
theorem dX9_digest_104 : decode cX9_digest 104 = .ok (.lstore_n 1, 1) := by decide +kernel
theorem dX9_digest_105 : decode cX9_digest 105 = .ok (.iinc 3 1, 3) := by decide +kernel
theorem dX9_digest_108 : decode cX9_digest 108 = .ok (.goto (-28), 3) := by decide +kernel
theorem dX9_digest_111 : decode cX9_digest 111 = .ok (.iconst 0, 1) := by decide +kernel
theorem dX9_digest_112 : decode cX9_digest 112 = .ok (.istore_n 3, 1) := by decide +kernel
theorem dX9_digest_113 : decode cX9_digest 113 = .ok (.iload_n 3, 1) := by decide +kernel
theorem dX9_digest_114 : decode cX9_digest 114 = .ok (.bipush 6, 2) := by decide +kernel
theorem dX9_digest_116 : decode cX9_digest 116 = .ok (.if_icmp .gt 20, 3) := by decide +kernel
theorem dX9_digest_119 : decode cX9_digest 119 = .ok (.lload_n 1, 1) := by decide +kernel
theorem dX9_digest_120 : decode cX9_digest 120 = .ok (.aload_n 0, 1) := by decide +kernel
theorem dX9_digest_121 : decode cX9_digest 121 = .ok (.iload_n 3, 1) := by decide +kernel
theorem dX9_digest_122 : decode cX9_digest 122 = .ok (.invokevirtual 248, 3) := by decide +kernel
theorem dX9_digest_125 : decode cX9_digest 125 = .ok (.i2l, 1) := by decide +kernel
theorem dX9_digest_126 : decode cX9_digest 126 = .ok (.invokestatic 231, 3) := by decide +kernel
theorem dX9_digest_129 : decode cX9_digest 129 = .ok (.lstore_n 1, 1) := by decide +kernel
theorem dX9_digest_130 : decode cX9_digest 130 = .ok (.iinc 3 1, 3) := by decide +kernel
theorem dX9_digest_133 : decode cX9_digest 133 = .ok (.goto (-20), 3) := by decide +kernel
theorem dX9_digest_136 : decode cX9_digest 136 = .ok (.lload_n 1, 1) := by decide +kernel
theorem dX9_digest_137 : decode cX9_digest 137 = .ok (.lreturn, 1) := by decide +kernel
theorem dX9_mixBlocks_0 : decode cX9_mixBlocks 0 = .ok (.lload_n 1, 1) := by decide +kernel
theorem dX9_mixBlocks_1 : decode cX9_mixBlocks 1 = .ok (.lstore_n 3, 1) := by decide +kernel
theorem dX9_mixBlocks_2 : decode cX9_mixBlocks 2 = .ok (.iconst 0, 1) := by decide +kernel
theorem dX9_mixBlocks_3 : decode cX9_mixBlocks 3 = .ok (.istore 5, 2) := by decide +kernel
theorem dX9_mixBlocks_5 : decode cX9_mixBlocks 5 = .ok (.iload 5, 2) := by decide +kernel
theorem dX9_mixBlocks_7 : decode cX9_mixBlocks 7 = .ok (.aload_n 0, 1) := by decide +kernel
theorem dX9_mixBlocks_8 : decode cX9_mixBlocks 8 = .ok (.getfield 26, 3) := by decide +kernel
theorem dX9_mixBlocks_11 : decode cX9_mixBlocks 11 = .ok (.invokevirtual 133, 3) := by decide +kernel
theorem dX9_mixBlocks_14 : decode cX9_mixBlocks 14 = .ok (.if_icmp .ge 41, 3) := by decide +kernel
theorem dX9_mixBlocks_17 : decode cX9_mixBlocks 17 = .ok (.iconst 0, 1) := by decide +kernel
theorem dX9_mixBlocks_18 : decode cX9_mixBlocks 18 = .ok (.istore 6, 2) := by decide +kernel
theorem dX9_mixBlocks_20 : decode cX9_mixBlocks 20 = .ok (.iload 6, 2) := by decide +kernel
theorem dX9_mixBlocks_22 : decode cX9_mixBlocks 22 = .ok (.iconst 4, 1) := by decide +kernel
theorem dX9_mixBlocks_23 : decode cX9_mixBlocks 23 = .ok (.if_icmp .gt 26, 3) := by decide +kernel
theorem dX9_mixBlocks_26 : decode cX9_mixBlocks 26 = .ok (.lload_n 3, 1) := by decide +kernel
theorem dX9_mixBlocks_27 : decode cX9_mixBlocks 27 = .ok (.aload_n 0, 1) := by decide +kernel
theorem dX9_mixBlocks_28 : decode cX9_mixBlocks 28 = .ok (.getfield 26, 3) := by decide +kernel
theorem dX9_mixBlocks_31 : decode cX9_mixBlocks 31 = .ok (.iload 5, 2) := by decide +kernel
theorem dX9_mixBlocks_33 : decode cX9_mixBlocks 33 = .ok (.iload 6, 2) := by decide +kernel
theorem dX9_mixBlocks_35 : decode cX9_mixBlocks 35 = .ok (.invokevirtual 110, 3) := by decide +kernel
theorem dX9_mixBlocks_38 : decode cX9_mixBlocks 38 = .ok (.i2l, 1) := by decide +kernel
theorem dX9_mixBlocks_39 : decode cX9_mixBlocks 39 = .ok (.invokestatic 231, 3) := by decide +kernel
theorem dX9_mixBlocks_42 : decode cX9_mixBlocks 42 = .ok (.lstore_n 3, 1) := by decide +kernel
theorem dX9_mixBlocks_43 : decode cX9_mixBlocks 43 = .ok (.iinc 6 1, 3) := by decide +kernel
theorem dX9_mixBlocks_46 : decode cX9_mixBlocks 46 = .ok (.goto (-26), 3) := by decide +kernel
theorem dX9_mixBlocks_49 : decode cX9_mixBlocks 49 = .ok (.iinc 5 1, 3) := by decide +kernel
theorem dX9_mixBlocks_52 : decode cX9_mixBlocks 52 = .ok (.goto (-47), 3) := by decide +kernel
theorem dX9_mixBlocks_55 : decode cX9_mixBlocks 55 = .ok (.lload_n 3, 1) := by decide +kernel
theorem dX9_mixBlocks_56 : decode cX9_mixBlocks 56 = .ok (.lreturn, 1) := by decide +kernel
theorem dX9_mixLaying_0 : decode cX9_mixLaying 0 = .ok (.lload_n 1, 1) := by decide +kernel
theorem dX9_mixLaying_1 : decode cX9_mixLaying 1 = .ok (.aload_n 0, 1) := by decide +kernel
theorem dX9_mixLaying_2 : decode cX9_mixLaying 2 = .ok (.getfield 26, 3) := by decide +kernel
theorem dX9_mixLaying_5 : decode cX9_mixLaying 5 = .ok (.invokevirtual 156, 3) := by decide +kernel
theorem dX9_mixLaying_8 : decode cX9_mixLaying 8 = .ok (.i2l, 1) := by decide +kernel
theorem dX9_mixLaying_9 : decode cX9_mixLaying 9 = .ok (.invokestatic 231, 3) := by decide +kernel
theorem dX9_mixLaying_12 : decode cX9_mixLaying 12 = .ok (.lstore_n 3, 1) := by decide +kernel
theorem dX9_mixLaying_13 : decode cX9_mixLaying 13 = .ok (.lload_n 3, 1) := by decide +kernel
theorem dX9_mixLaying_14 : decode cX9_mixLaying 14 = .ok (.aload_n 0, 1) := by decide +kernel
theorem dX9_mixLaying_15 : decode cX9_mixLaying 15 = .ok (.getfield 26, 3) := by decide +kernel
theorem dX9_mixLaying_18 : decode cX9_mixLaying 18 = .ok (.invokevirtual 192, 3) := by decide +kernel
theorem dX9_mixLaying_21 : decode cX9_mixLaying 21 = .ok (.i2l, 1) := by decide +kernel
theorem dX9_mixLaying_22 : decode cX9_mixLaying 22 = .ok (.invokestatic 231, 3) := by decide +kernel
theorem dX9_mixLaying_25 : decode cX9_mixLaying 25 = .ok (.lstore_n 3, 1) := by decide +kernel
theorem dX9_mixLaying_26 : decode cX9_mixLaying 26 = .ok (.aload_n 0, 1) := by decide +kernel
theorem dX9_mixLaying_27 : decode cX9_mixLaying 27 = .ok (.getfield 36, 3) := by decide +kernel
theorem dX9_mixLaying_30 : decode cX9_mixLaying 30 = .ok (.aload_n 0, 1) := by decide +kernel
theorem dX9_mixLaying_31 : decode cX9_mixLaying 31 = .ok (.getfield 26, 3) := by decide +kernel
theorem dX9_mixLaying_34 : decode cX9_mixLaying 34 = .ok (.invokevirtual 251, 3) := by decide +kernel
theorem dX9_mixLaying_37 : decode cX9_mixLaying 37 = .ok (.lload_n 3, 1) := by decide +kernel
theorem dX9_mixLaying_38 : decode cX9_mixLaying 38 = .ok (.aload_n 0, 1) := by decide +kernel
theorem dX9_mixLaying_39 : decode cX9_mixLaying 39 = .ok (.getfield 19, 3) := by decide +kernel
theorem dX9_mixLaying_42 : decode cX9_mixLaying 42 = .ok (.aload_n 0, 1) := by decide +kernel
theorem dX9_mixLaying_43 : decode cX9_mixLaying 43 = .ok (.getfield 26, 3) := by decide +kernel
theorem dX9_mixLaying_46 : decode cX9_mixLaying 46 = .ok (.aload_n 0, 1) := by decide +kernel
theorem dX9_mixLaying_47 : decode cX9_mixLaying 47 = .ok (.getfield 36, 3) := by decide +kernel
theorem dX9_mixLaying_50 : decode cX9_mixLaying 50 = .ok (.invokevirtual 145, 3) := by decide +kernel
theorem dX9_mixLaying_53 : decode cX9_mixLaying 53 = .ok (.ifCond .eq 7, 3) := by decide +kernel
theorem dX9_mixLaying_56 : decode cX9_mixLaying 56 = .ok (.lconst 1, 1) := by decide +kernel
theorem dX9_mixLaying_57 : decode cX9_mixLaying 57 = .ok (.goto 4, 3) := by decide +kernel
theorem dX9_mixLaying_60 : decode cX9_mixLaying 60 = .ok (.lconst 0, 1) := by decide +kernel
theorem dX9_mixLaying_61 : decode cX9_mixLaying 61 = .ok (.invokestatic 231, 3) := by decide +kernel
theorem dX9_mixLaying_64 : decode cX9_mixLaying 64 = .ok (.lstore_n 3, 1) := by decide +kernel
theorem dX9_mixLaying_65 : decode cX9_mixLaying 65 = .ok (.iconst 0, 1) := by decide +kernel
theorem dX9_mixLaying_66 : decode cX9_mixLaying 66 = .ok (.istore 5, 2) := by decide +kernel
theorem dX9_mixLaying_68 : decode cX9_mixLaying 68 = .ok (.iload 5, 2) := by decide +kernel
theorem dX9_mixLaying_70 : decode cX9_mixLaying 70 = .ok (.iconst 2, 1) := by decide +kernel
theorem dX9_mixLaying_71 : decode cX9_mixLaying 71 = .ok (.if_icmp .gt 28, 3) := by decide +kernel
theorem dX9_mixLaying_74 : decode cX9_mixLaying 74 = .ok (.lload_n 3, 1) := by decide +kernel
theorem dX9_mixLaying_75 : decode cX9_mixLaying 75 = .ok (.aload_n 0, 1) := by decide +kernel
theorem dX9_mixLaying_76 : decode cX9_mixLaying 76 = .ok (.getfield 26, 3) := by decide +kernel
theorem dX9_mixLaying_79 : decode cX9_mixLaying 79 = .ok (.aload_n 0, 1) := by decide +kernel
theorem dX9_mixLaying_80 : decode cX9_mixLaying 80 = .ok (.getfield 36, 3) := by decide +kernel
theorem dX9_mixLaying_83 : decode cX9_mixLaying 83 = .ok (.iload 5, 2) := by decide +kernel
theorem dX9_mixLaying_85 : decode cX9_mixLaying 85 = .ok (.invokestatic 181, 3) := by decide +kernel
theorem dX9_mixLaying_88 : decode cX9_mixLaying 88 = .ok (.i2l, 1) := by decide +kernel
theorem dX9_mixLaying_89 : decode cX9_mixLaying 89 = .ok (.invokestatic 231, 3) := by decide +kernel
theorem dX9_mixLaying_92 : decode cX9_mixLaying 92 = .ok (.lstore_n 3, 1) := by decide +kernel
theorem dX9_mixLaying_93 : decode cX9_mixLaying 93 = .ok (.iinc 5 1, 3) := by decide +kernel
theorem dX9_mixLaying_96 : decode cX9_mixLaying 96 = .ok (.goto (-28), 3) := by decide +kernel
theorem dX9_mixLaying_99 : decode cX9_mixLaying 99 = .ok (.lload_n 3, 1) := by decide +kernel
theorem dX9_mixLaying_100 : decode cX9_mixLaying 100 = .ok (.lreturn, 1) := by decide +kernel
theorem dX9_isTooShort_0 : decode cX9_isTooShort 0 = .ok (.aload_n 0, 1) := by decide +kernel
theorem dX9_isTooShort_1 : decode cX9_isTooShort 1 = .ok (.getfield 26, 3) := by decide +kernel
theorem dX9_isTooShort_4 : decode cX9_isTooShort 4 = .ok (.invokevirtual 133, 3) := by decide +kernel
theorem dX9_isTooShort_7 : decode cX9_isTooShort 7 = .ok (.iconst 2, 1) := by decide +kernel
theorem dX9_isTooShort_8 : decode cX9_isTooShort 8 = .ok (.if_icmp .ge 7, 3) := by decide +kernel
theorem dX9_isTooShort_11 : decode cX9_isTooShort 11 = .ok (.iconst 1, 1) := by decide +kernel
theorem dX9_isTooShort_12 : decode cX9_isTooShort 12 = .ok (.goto 4, 3) := by decide +kernel
theorem dX9_isTooShort_15 : decode cX9_isTooShort 15 = .ok (.iconst 0, 1) := by decide +kernel
theorem dX9_isTooShort_16 : decode cX9_isTooShort 16 = .ok (.ireturn, 1) := by decide +kernel
theorem dX9_mix_0 : decode cX9_mix 0 = .ok (.ldc2_w 254, 3) := by decide +kernel
theorem dX9_mix_3 : decode cX9_mix 3 = .ok (.lload_n 0, 1) := by decide +kernel
theorem dX9_mix_4 : decode cX9_mix 4 = .ok (.lmul, 1) := by decide +kernel
theorem dX9_mix_5 : decode cX9_mix 5 = .ok (.lload_n 2, 1) := by decide +kernel
theorem dX9_mix_6 : decode cX9_mix 6 = .ok (.ladd, 1) := by decide +kernel
theorem dX9_mix_7 : decode cX9_mix 7 = .ok (.lreturn, 1) := by decide +kernel
theorem dX9_isWithin_0 : decode cX9_isWithin 0 = .ok (.iload_n 0, 1) := by decide +kernel
theorem dX9_isWithin_1 : decode cX9_isWithin 1 = .ok (.iload_n 1, 1) := by decide +kernel
theorem dX9_isWithin_2 : decode cX9_isWithin 2 = .ok (.if_icmp .lt 12, 3) := by decide +kernel
theorem dX9_isWithin_5 : decode cX9_isWithin 5 = .ok (.iload_n 0, 1) := by decide +kernel
theorem dX9_isWithin_6 : decode cX9_isWithin 6 = .ok (.iload_n 2, 1) := by decide +kernel
theorem dX9_isWithin_7 : decode cX9_isWithin 7 = .ok (.if_icmp .gt 7, 3) := by decide +kernel
theorem dX9_isWithin_10 : decode cX9_isWithin 10 = .ok (.iconst 1, 1) := by decide +kernel
theorem dX9_isWithin_11 : decode cX9_isWithin 11 = .ok (.goto 4, 3) := by decide +kernel
theorem dX9_isWithin_14 : decode cX9_isWithin 14 = .ok (.iconst 0, 1) := by decide +kernel
theorem dX9_isWithin_15 : decode cX9_isWithin 15 = .ok (.ireturn, 1) := by decide +kernel
theorem dX9_isKind_0 : decode cX9_isKind 0 = .ok (.iload_n 0, 1) := by decide +kernel
theorem dX9_isKind_1 : decode cX9_isKind 1 = .ok (.iconst 0, 1) := by decide +kernel
theorem dX9_isKind_2 : decode cX9_isKind 2 = .ok (.iconst 4, 1) := by decide +kernel
theorem dX9_isKind_3 : decode cX9_isKind 3 = .ok (.invokestatic 91, 3) := by decide +kernel
theorem dX9_isKind_6 : decode cX9_isKind 6 = .ok (.ireturn, 1) := by decide +kernel
theorem dX9_isAlso_0 : decode cX9_isAlso 0 = .ok (.iload_n 1, 1) := by decide +kernel
theorem dX9_isAlso_1 : decode cX9_isAlso 1 = .ok (.ifCond .eq 18, 3) := by decide +kernel
theorem dX9_isAlso_4 : decode cX9_isAlso 4 = .ok (.iload_n 0, 1) := by decide +kernel
theorem dX9_isAlso_5 : decode cX9_isAlso 5 = .ok (.iload_n 1, 1) := by decide +kernel
theorem dX9_isAlso_6 : decode cX9_isAlso 6 = .ok (.if_icmp .eq 13, 3) := by decide +kernel
theorem dX9_isAlso_9 : decode cX9_isAlso 9 = .ok (.iload_n 1, 1) := by decide +kernel
theorem dX9_isAlso_10 : decode cX9_isAlso 10 = .ok (.iconst 1, 1) := by decide +kernel
theorem dX9_isAlso_11 : decode cX9_isAlso 11 = .ok (.if_icmp .ne 12, 3) := by decide +kernel
theorem dX9_isAlso_14 : decode cX9_isAlso 14 = .ok (.iload_n 0, 1) := by decide +kernel
theorem dX9_isAlso_15 : decode cX9_isAlso 15 = .ok (.iconst 4, 1) := by decide +kernel
theorem dX9_isAlso_16 : decode cX9_isAlso 16 = .ok (.if_icmp .ne 7, 3) := by decide +kernel
theorem dX9_isAlso_19 : decode cX9_isAlso 19 = .ok (.iconst 1, 1) := by decide +kernel
theorem dX9_isAlso_20 : decode cX9_isAlso 20 = .ok (.goto 4, 3) := by decide +kernel
theorem dX9_isAlso_23 : decode cX9_isAlso 23 = .ok (.iconst 0, 1) := by decide +kernel
theorem dX9_isAlso_24 : decode cX9_isAlso 24 = .ok (.ireturn, 1) := by decide +kernel
theorem dX10_init_0 : decode cX10_init 0 = .ok (.aload_n 0, 1) := by decide +kernel
theorem dX10_init_1 : decode cX10_init 1 = .ok (.invokespecial 1, 3) := by decide +kernel
theorem dX10_init_4 : decode cX10_init 4 = .ok (.aload_n 0, 1) := by decide +kernel
theorem dX10_init_5 : decode cX10_init 5 = .ok (.bipush 16, 2) := by decide +kernel
theorem dX10_init_7 : decode cX10_init 7 = .ok (.newarray .int, 2) := by decide +kernel
theorem dX10_init_9 : decode cX10_init 9 = .ok (.putfield 7, 3) := by decide +kernel
theorem dX10_init_12 : decode cX10_init 12 = .ok (.aload_n 0, 1) := by decide +kernel
theorem dX10_init_13 : decode cX10_init 13 = .ok (.bipush 7, 2) := by decide +kernel
theorem dX10_init_15 : decode cX10_init 15 = .ok (.newarray .int, 2) := by decide +kernel
theorem dX10_init_17 : decode cX10_init 17 = .ok (.putfield 13, 3) := by decide +kernel
theorem dX10_init_20 : decode cX10_init 20 = .ok (.aload_n 0, 1) := by decide +kernel
theorem dX10_init_21 : decode cX10_init 21 = .ok (.bipush 7, 2) := by decide +kernel
theorem dX10_init_23 : decode cX10_init 23 = .ok (.newarray .int, 2) := by decide +kernel
theorem dX10_init_25 : decode cX10_init 25 = .ok (.putfield 16, 3) := by decide +kernel
theorem dX10_init_28 : decode cX10_init 28 = .ok (.aload_n 0, 1) := by decide +kernel
theorem dX10_init_29 : decode cX10_init 29 = .ok (.bipush 7, 2) := by decide +kernel
theorem dX10_init_31 : decode cX10_init 31 = .ok (.newarray .int, 2) := by decide +kernel
theorem dX10_init_33 : decode cX10_init 33 = .ok (.putfield 19, 3) := by decide +kernel
theorem dX10_init_36 : decode cX10_init 36 = .ok (.aload_n 0, 1) := by decide +kernel
theorem dX10_init_37 : decode cX10_init 37 = .ok (.bipush 7, 2) := by decide +kernel
theorem dX10_init_39 : decode cX10_init 39 = .ok (.newarray .int, 2) := by decide +kernel
theorem dX10_init_41 : decode cX10_init 41 = .ok (.putfield 22, 3) := by decide +kernel
theorem dX10_init_44 : decode cX10_init 44 = .ok (.aload_n 0, 1) := by decide +kernel
theorem dX10_init_45 : decode cX10_init 45 = .ok (.bipush 7, 2) := by decide +kernel
theorem dX10_init_47 : decode cX10_init 47 = .ok (.newarray .int, 2) := by decide +kernel
theorem dX10_init_49 : decode cX10_init 49 = .ok (.putfield 25, 3) := by decide +kernel
theorem dX10_init_52 : decode cX10_init 52 = .ok (.aload_n 0, 1) := by decide +kernel
theorem dX10_init_53 : decode cX10_init 53 = .ok (.bipush 7, 2) := by decide +kernel
theorem dX10_init_55 : decode cX10_init 55 = .ok (.newarray .int, 2) := by decide +kernel
theorem dX10_init_57 : decode cX10_init 57 = .ok (.putfield 28, 3) := by decide +kernel
theorem dX10_init_60 : decode cX10_init 60 = .ok (.aload_n 0, 1) := by decide +kernel
theorem dX10_init_61 : decode cX10_init 61 = .ok (.bipush 7, 2) := by decide +kernel
theorem dX10_init_63 : decode cX10_init 63 = .ok (.newarray .int, 2) := by decide +kernel
theorem dX10_init_65 : decode cX10_init 65 = .ok (.putfield 31, 3) := by decide +kernel
theorem dX10_init_68 : decode cX10_init 68 = .ok (.aload_n 0, 1) := by decide +kernel
theorem dX10_init_69 : decode cX10_init 69 = .ok (.bipush 7, 2) := by decide +kernel
theorem dX10_init_71 : decode cX10_init 71 = .ok (.newarray .int, 2) := by decide +kernel
theorem dX10_init_73 : decode cX10_init 73 = .ok (.putfield 34, 3) := by decide +kernel
theorem dX10_init_76 : decode cX10_init 76 = .ok (.aload_n 0, 1) := by decide +kernel
theorem dX10_init_77 : decode cX10_init 77 = .ok (.bipush 7, 2) := by decide +kernel
theorem dX10_init_79 : decode cX10_init 79 = .ok (.newarray .int, 2) := by decide +kernel
theorem dX10_init_81 : decode cX10_init 81 = .ok (.putfield 37, 3) := by decide +kernel
theorem dX10_init_84 : decode cX10_init 84 = .ok (.aload_n 0, 1) := by decide +kernel
theorem dX10_init_85 : decode cX10_init 85 = .ok (.bipush 7, 2) := by decide +kernel
theorem dX10_init_87 : decode cX10_init 87 = .ok (.newarray .int, 2) := by decide +kernel
theorem dX10_init_89 : decode cX10_init 89 = .ok (.putfield 40, 3) := by decide +kernel
theorem dX10_init_92 : decode cX10_init 92 = .ok (.aload_n 0, 1) := by decide +kernel
theorem dX10_init_93 : decode cX10_init 93 = .ok (.bipush 42, 2) := by decide +kernel
theorem dX10_init_95 : decode cX10_init 95 = .ok (.newarray .int, 2) := by decide +kernel
theorem dX10_init_97 : decode cX10_init 97 = .ok (.putfield 43, 3) := by decide +kernel
theorem dX10_init_100 : decode cX10_init 100 = .ok (.aload_n 0, 1) := by decide +kernel
theorem dX10_init_101 : decode cX10_init 101 = .ok (.iconst (-1), 1) := by decide +kernel
theorem dX10_init_102 : decode cX10_init 102 = .ok (.putfield 46, 3) := by decide +kernel
theorem dX10_init_105 : decode cX10_init 105 = .ok (.aload_n 0, 1) := by decide +kernel
theorem dX10_init_106 : decode cX10_init 106 = .ok (.bipush 10, 2) := by decide +kernel
theorem dX10_init_108 : decode cX10_init 108 = .ok (.putfield 50, 3) := by decide +kernel
theorem dX10_init_111 : decode cX10_init 111 = .ok (.iconst 0, 1) := by decide +kernel
theorem dX10_init_112 : decode cX10_init 112 = .ok (.istore_n 1, 1) := by decide +kernel
theorem dX10_init_113 : decode cX10_init 113 = .ok (.iload_n 1, 1) := by decide +kernel
theorem dX10_init_114 : decode cX10_init 114 = .ok (.bipush 7, 2) := by decide +kernel
theorem dX10_init_116 : decode cX10_init 116 = .ok (.if_icmp .ge 16, 3) := by decide +kernel
theorem dX10_init_119 : decode cX10_init 119 = .ok (.aload_n 0, 1) := by decide +kernel
theorem dX10_init_120 : decode cX10_init 120 = .ok (.getfield 28, 3) := by decide +kernel
