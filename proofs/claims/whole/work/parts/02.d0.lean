theorem dX0_told_0 : decode cX0_told 0 = .ok (.iload_n 2, 1) := by decide +kernel
theorem dX0_told_1 : decode cX0_told 1 = .ok (.lookupswitch 44 #[(0, 27), (1, 38)], 27) := by decide +kernel
theorem dX0_told_28 : decode cX0_told 28 = .ok (.aload_n 0, 1) := by decide +kernel
theorem dX0_told_29 : decode cX0_told 29 = .ok (.aload_n 1, 1) := by decide +kernel
theorem dX0_told_30 : decode cX0_told 30 = .ok (.iconst 0, 1) := by decide +kernel
theorem dX0_told_31 : decode cX0_told 31 = .ok (.aload_n 1, 1) := by decide +kernel
theorem dX0_told_32 : decode cX0_told 32 = .ok (.invokevirtual 7, 3) := by decide +kernel
theorem dX0_told_35 : decode cX0_told 35 = .ok (.invokestatic 13, 3) := by decide +kernel
theorem dX0_told_38 : decode cX0_told 38 = .ok (.ireturn, 1) := by decide +kernel
theorem dX0_told_39 : decode cX0_told 39 = .ok (.aload_n 0, 1) := by decide +kernel
theorem dX0_told_40 : decode cX0_told 40 = .ok (.aload_n 1, 1) := by decide +kernel
theorem dX0_told_41 : decode cX0_told 41 = .ok (.invokestatic 19, 3) := by decide +kernel
theorem dX0_told_44 : decode cX0_told 44 = .ok (.ireturn, 1) := by decide +kernel
theorem dX0_told_45 : decode cX0_told 45 = .ok (.aload_n 0, 1) := by decide +kernel
theorem dX0_told_46 : decode cX0_told 46 = .ok (.aload_n 1, 1) := by decide +kernel
theorem dX0_told_47 : decode cX0_told 47 = .ok (.invokestatic 23, 3) := by decide +kernel
theorem dX0_told_50 : decode cX0_told 50 = .ok (.ireturn, 1) := by decide +kernel
theorem dX0_wayTo_0 : decode cX0_wayTo 0 = .ok (.iconst 0, 1) := by decide +kernel
theorem dX0_wayTo_1 : decode cX0_wayTo 1 = .ok (.istore 4, 2) := by decide +kernel
theorem dX0_wayTo_3 : decode cX0_wayTo 3 = .ok (.iload_n 2, 1) := by decide +kernel
theorem dX0_wayTo_4 : decode cX0_wayTo 4 = .ok (.istore 5, 2) := by decide +kernel
theorem dX0_wayTo_6 : decode cX0_wayTo 6 = .ok (.iload 5, 2) := by decide +kernel
theorem dX0_wayTo_8 : decode cX0_wayTo 8 = .ok (.iload_n 3, 1) := by decide +kernel
theorem dX0_wayTo_9 : decode cX0_wayTo 9 = .ok (.if_icmp .ge 30, 3) := by decide +kernel
theorem dX0_wayTo_12 : decode cX0_wayTo 12 = .ok (.iload 4, 2) := by decide +kernel
theorem dX0_wayTo_14 : decode cX0_wayTo 14 = .ok (.aload_n 0, 1) := by decide +kernel
theorem dX0_wayTo_15 : decode cX0_wayTo 15 = .ok (.aload_n 1, 1) := by decide +kernel
theorem dX0_wayTo_16 : decode cX0_wayTo 16 = .ok (.iload 5, 2) := by decide +kernel
theorem dX0_wayTo_18 : decode cX0_wayTo 18 = .ok (.invokevirtual 26, 3) := by decide +kernel
theorem dX0_wayTo_21 : decode cX0_wayTo 21 = .ok (.invokevirtual 30, 3) := by decide +kernel
theorem dX0_wayTo_24 : decode cX0_wayTo 24 = .ok (.iload 5, 2) := by decide +kernel
theorem dX0_wayTo_26 : decode cX0_wayTo 26 = .ok (.isub, 1) := by decide +kernel
theorem dX0_wayTo_27 : decode cX0_wayTo 27 = .ok (.invokestatic 35, 3) := by decide +kernel
theorem dX0_wayTo_30 : decode cX0_wayTo 30 = .ok (.iadd, 1) := by decide +kernel
theorem dX0_wayTo_31 : decode cX0_wayTo 31 = .ok (.istore 4, 2) := by decide +kernel
theorem dX0_wayTo_33 : decode cX0_wayTo 33 = .ok (.iinc 5 1, 3) := by decide +kernel
theorem dX0_wayTo_36 : decode cX0_wayTo 36 = .ok (.goto (-30), 3) := by decide +kernel
theorem dX0_wayTo_39 : decode cX0_wayTo 39 = .ok (.iload 4, 2) := by decide +kernel
theorem dX0_wayTo_41 : decode cX0_wayTo 41 = .ok (.ireturn, 1) := by decide +kernel
theorem dX0_greaterGang_0 : decode cX0_greaterGang 0 = .ok (.aload_n 1, 1) := by decide +kernel
theorem dX0_greaterGang_1 : decode cX0_greaterGang 1 = .ok (.invokevirtual 7, 3) := by decide +kernel
theorem dX0_greaterGang_4 : decode cX0_greaterGang 4 = .ok (.iconst 2, 1) := by decide +kernel
theorem dX0_greaterGang_5 : decode cX0_greaterGang 5 = .ok (.idiv, 1) := by decide +kernel
theorem dX0_greaterGang_6 : decode cX0_greaterGang 6 = .ok (.istore_n 2, 1) := by decide +kernel
theorem dX0_greaterGang_7 : decode cX0_greaterGang 7 = .ok (.aload_n 0, 1) := by decide +kernel
theorem dX0_greaterGang_8 : decode cX0_greaterGang 8 = .ok (.aload_n 1, 1) := by decide +kernel
theorem dX0_greaterGang_9 : decode cX0_greaterGang 9 = .ok (.iconst 0, 1) := by decide +kernel
theorem dX0_greaterGang_10 : decode cX0_greaterGang 10 = .ok (.iload_n 2, 1) := by decide +kernel
theorem dX0_greaterGang_11 : decode cX0_greaterGang 11 = .ok (.invokestatic 13, 3) := by decide +kernel
theorem dX0_greaterGang_14 : decode cX0_greaterGang 14 = .ok (.aload_n 0, 1) := by decide +kernel
theorem dX0_greaterGang_15 : decode cX0_greaterGang 15 = .ok (.aload_n 1, 1) := by decide +kernel
theorem dX0_greaterGang_16 : decode cX0_greaterGang 16 = .ok (.iload_n 2, 1) := by decide +kernel
theorem dX0_greaterGang_17 : decode cX0_greaterGang 17 = .ok (.aload_n 1, 1) := by decide +kernel
theorem dX0_greaterGang_18 : decode cX0_greaterGang 18 = .ok (.invokevirtual 7, 3) := by decide +kernel
theorem dX0_greaterGang_21 : decode cX0_greaterGang 21 = .ok (.invokestatic 13, 3) := by decide +kernel
theorem dX0_greaterGang_24 : decode cX0_greaterGang 24 = .ok (.invokestatic 40, 3) := by decide +kernel
theorem dX0_greaterGang_27 : decode cX0_greaterGang 27 = .ok (.ireturn, 1) := by decide +kernel
theorem dX0_exchangesTo_0 : decode cX0_exchangesTo 0 = .ok (.iconst 0, 1) := by decide +kernel
theorem dX0_exchangesTo_1 : decode cX0_exchangesTo 1 = .ok (.istore_n 2, 1) := by decide +kernel
theorem dX0_exchangesTo_2 : decode cX0_exchangesTo 2 = .ok (.iconst 0, 1) := by decide +kernel
theorem dX0_exchangesTo_3 : decode cX0_exchangesTo 3 = .ok (.istore_n 3, 1) := by decide +kernel
theorem dX0_exchangesTo_4 : decode cX0_exchangesTo 4 = .ok (.iconst 0, 1) := by decide +kernel
theorem dX0_exchangesTo_5 : decode cX0_exchangesTo 5 = .ok (.istore 4, 2) := by decide +kernel
theorem dX0_exchangesTo_7 : decode cX0_exchangesTo 7 = .ok (.iload 4, 2) := by decide +kernel
theorem dX0_exchangesTo_9 : decode cX0_exchangesTo 9 = .ok (.aload_n 1, 1) := by decide +kernel
theorem dX0_exchangesTo_10 : decode cX0_exchangesTo 10 = .ok (.invokevirtual 7, 3) := by decide +kernel
theorem dX0_exchangesTo_13 : decode cX0_exchangesTo 13 = .ok (.if_icmp .ge 30, 3) := by decide +kernel
theorem dX0_exchangesTo_16 : decode cX0_exchangesTo 16 = .ok (.iload_n 3, 1) := by decide +kernel
theorem dX0_exchangesTo_17 : decode cX0_exchangesTo 17 = .ok (.iload 4, 2) := by decide +kernel
theorem dX0_exchangesTo_19 : decode cX0_exchangesTo 19 = .ok (.ishr, 1) := by decide +kernel
theorem dX0_exchangesTo_20 : decode cX0_exchangesTo 20 = .ok (.iconst 1, 1) := by decide +kernel
theorem dX0_exchangesTo_21 : decode cX0_exchangesTo 21 = .ok (.iand, 1) := by decide +kernel
theorem dX0_exchangesTo_22 : decode cX0_exchangesTo 22 = .ok (.ifCond .ne 15, 3) := by decide +kernel
theorem dX0_exchangesTo_25 : decode cX0_exchangesTo 25 = .ok (.iinc 2 1, 3) := by decide +kernel
theorem dX0_exchangesTo_28 : decode cX0_exchangesTo 28 = .ok (.aload_n 0, 1) := by decide +kernel
theorem dX0_exchangesTo_29 : decode cX0_exchangesTo 29 = .ok (.aload_n 1, 1) := by decide +kernel
theorem dX0_exchangesTo_30 : decode cX0_exchangesTo 30 = .ok (.iload 4, 2) := by decide +kernel
theorem dX0_exchangesTo_32 : decode cX0_exchangesTo 32 = .ok (.iload_n 3, 1) := by decide +kernel
theorem dX0_exchangesTo_33 : decode cX0_exchangesTo 33 = .ok (.invokestatic 44, 3) := by decide +kernel
theorem dX0_exchangesTo_36 : decode cX0_exchangesTo 36 = .ok (.istore_n 3, 1) := by decide +kernel
theorem dX0_exchangesTo_37 : decode cX0_exchangesTo 37 = .ok (.iinc 4 1, 3) := by decide +kernel
theorem dX0_exchangesTo_40 : decode cX0_exchangesTo 40 = .ok (.goto (-33), 3) := by decide +kernel
theorem dX0_exchangesTo_43 : decode cX0_exchangesTo 43 = .ok (.aload_n 1, 1) := by decide +kernel
theorem dX0_exchangesTo_44 : decode cX0_exchangesTo 44 = .ok (.invokevirtual 7, 3) := by decide +kernel
theorem dX0_exchangesTo_47 : decode cX0_exchangesTo 47 = .ok (.iload_n 2, 1) := by decide +kernel
theorem dX0_exchangesTo_48 : decode cX0_exchangesTo 48 = .ok (.isub, 1) := by decide +kernel
theorem dX0_exchangesTo_49 : decode cX0_exchangesTo 49 = .ok (.ireturn, 1) := by decide +kernel
theorem dX0_ringFrom_0 : decode cX0_ringFrom 0 = .ok (.iload_n 3, 1) := by decide +kernel
theorem dX0_ringFrom_1 : decode cX0_ringFrom 1 = .ok (.istore 4, 2) := by decide +kernel
theorem dX0_ringFrom_3 : decode cX0_ringFrom 3 = .ok (.iload_n 2, 1) := by decide +kernel
theorem dX0_ringFrom_4 : decode cX0_ringFrom 4 = .ok (.istore 5, 2) := by decide +kernel
theorem dX0_ringFrom_6 : decode cX0_ringFrom 6 = .ok (.iconst 0, 1) := by decide +kernel
theorem dX0_ringFrom_7 : decode cX0_ringFrom 7 = .ok (.istore 6, 2) := by decide +kernel
theorem dX0_ringFrom_9 : decode cX0_ringFrom 9 = .ok (.iload 6, 2) := by decide +kernel
theorem dX0_ringFrom_11 : decode cX0_ringFrom 11 = .ok (.aload_n 1, 1) := by decide +kernel
theorem dX0_ringFrom_12 : decode cX0_ringFrom 12 = .ok (.invokevirtual 7, 3) := by decide +kernel
theorem dX0_ringFrom_15 : decode cX0_ringFrom 15 = .ok (.if_icmp .ge 30, 3) := by decide +kernel
theorem dX0_ringFrom_18 : decode cX0_ringFrom 18 = .ok (.iload 4, 2) := by decide +kernel
theorem dX0_ringFrom_20 : decode cX0_ringFrom 20 = .ok (.iconst 1, 1) := by decide +kernel
theorem dX0_ringFrom_21 : decode cX0_ringFrom 21 = .ok (.iload 5, 2) := by decide +kernel
theorem dX0_ringFrom_23 : decode cX0_ringFrom 23 = .ok (.ishl, 1) := by decide +kernel
theorem dX0_ringFrom_24 : decode cX0_ringFrom 24 = .ok (.ior, 1) := by decide +kernel
theorem dX0_ringFrom_25 : decode cX0_ringFrom 25 = .ok (.istore 4, 2) := by decide +kernel
theorem dX0_ringFrom_27 : decode cX0_ringFrom 27 = .ok (.aload_n 0, 1) := by decide +kernel
theorem dX0_ringFrom_28 : decode cX0_ringFrom 28 = .ok (.aload_n 1, 1) := by decide +kernel
theorem dX0_ringFrom_29 : decode cX0_ringFrom 29 = .ok (.iload 5, 2) := by decide +kernel
theorem dX0_ringFrom_31 : decode cX0_ringFrom 31 = .ok (.invokevirtual 26, 3) := by decide +kernel
theorem dX0_ringFrom_34 : decode cX0_ringFrom 34 = .ok (.invokevirtual 30, 3) := by decide +kernel
theorem dX0_ringFrom_37 : decode cX0_ringFrom 37 = .ok (.istore 5, 2) := by decide +kernel
theorem dX0_ringFrom_39 : decode cX0_ringFrom 39 = .ok (.iinc 6 1, 3) := by decide +kernel
theorem dX0_ringFrom_42 : decode cX0_ringFrom 42 = .ok (.goto (-33), 3) := by decide +kernel
theorem dX0_ringFrom_45 : decode cX0_ringFrom 45 = .ok (.iload 4, 2) := by decide +kernel
theorem dX0_ringFrom_47 : decode cX0_ringFrom 47 = .ok (.ireturn, 1) := by decide +kernel
theorem dX1_swim_0 : decode cX1_swim 0 = .ok (.iload_n 1, 1) := by decide +kernel
theorem dX1_swim_1 : decode cX1_swim 1 = .ok (.istore_n 2, 1) := by decide +kernel
theorem dX1_swim_2 : decode cX1_swim 2 = .ok (.aload_n 0, 1) := by decide +kernel
theorem dX1_swim_3 : decode cX1_swim 3 = .ok (.invokevirtual 7, 3) := by decide +kernel
theorem dX1_swim_6 : decode cX1_swim 6 = .ok (.iconst 1, 1) := by decide +kernel
theorem dX1_swim_7 : decode cX1_swim 7 = .ok (.isub, 1) := by decide +kernel
theorem dX1_swim_8 : decode cX1_swim 8 = .ok (.istore_n 3, 1) := by decide +kernel
theorem dX1_swim_9 : decode cX1_swim 9 = .ok (.iload_n 3, 1) := by decide +kernel
theorem dX1_swim_10 : decode cX1_swim 10 = .ok (.iconst 1, 1) := by decide +kernel
theorem dX1_swim_11 : decode cX1_swim 11 = .ok (.if_icmp .lt 49, 3) := by decide +kernel
theorem dX1_swim_14 : decode cX1_swim 14 = .ok (.iload_n 2, 1) := by decide +kernel
theorem dX1_swim_15 : decode cX1_swim 15 = .ok (.invokestatic 13, 3) := by decide +kernel
theorem dX1_swim_18 : decode cX1_swim 18 = .ok (.istore_n 2, 1) := by decide +kernel
theorem dX1_swim_19 : decode cX1_swim 19 = .ok (.aload_n 0, 1) := by decide +kernel
theorem dX1_swim_20 : decode cX1_swim 20 = .ok (.iload_n 3, 1) := by decide +kernel
theorem dX1_swim_21 : decode cX1_swim 21 = .ok (.iload_n 2, 1) := by decide +kernel
theorem dX1_swim_22 : decode cX1_swim 22 = .ok (.iload_n 3, 1) := by decide +kernel
theorem dX1_swim_23 : decode cX1_swim 23 = .ok (.iconst 1, 1) := by decide +kernel
theorem dX1_swim_24 : decode cX1_swim 24 = .ok (.iadd, 1) := by decide +kernel
theorem dX1_swim_25 : decode cX1_swim 25 = .ok (.invokestatic 19, 3) := by decide +kernel
theorem dX1_swim_28 : decode cX1_swim 28 = .ok (.invokevirtual 23, 3) := by decide +kernel
theorem dX1_swim_31 : decode cX1_swim 31 = .ok (.iload_n 2, 1) := by decide +kernel
theorem dX1_swim_32 : decode cX1_swim 32 = .ok (.invokestatic 13, 3) := by decide +kernel
theorem dX1_swim_35 : decode cX1_swim 35 = .ok (.istore_n 2, 1) := by decide +kernel
theorem dX1_swim_36 : decode cX1_swim 36 = .ok (.iload_n 2, 1) := by decide +kernel
theorem dX1_swim_37 : decode cX1_swim 37 = .ok (.iconst 2, 1) := by decide +kernel
theorem dX1_swim_38 : decode cX1_swim 38 = .ok (.invokestatic 19, 3) := by decide +kernel
theorem dX1_swim_41 : decode cX1_swim 41 = .ok (.iconst 1, 1) := by decide +kernel
theorem dX1_swim_42 : decode cX1_swim 42 = .ok (.if_icmp .ne 12, 3) := by decide +kernel
theorem dX1_swim_45 : decode cX1_swim 45 = .ok (.aload_n 0, 1) := by decide +kernel
theorem dX1_swim_46 : decode cX1_swim 46 = .ok (.aload_n 0, 1) := by decide +kernel
theorem dX1_swim_47 : decode cX1_swim 47 = .ok (.iload_n 3, 1) := by decide +kernel
theorem dX1_swim_48 : decode cX1_swim 48 = .ok (.invokevirtual 27, 3) := by decide +kernel
theorem dX1_swim_51 : decode cX1_swim 51 = .ok (.invokevirtual 30, 3) := by decide +kernel
theorem dX1_swim_54 : decode cX1_swim 54 = .ok (.iinc 3 (-1), 3) := by decide +kernel
theorem dX1_swim_57 : decode cX1_swim 57 = .ok (.goto (-48), 3) := by decide +kernel
theorem dX1_swim_60 : decode cX1_swim 60 = .ok (.iload_n 2, 1) := by decide +kernel
theorem dX1_swim_61 : decode cX1_swim 61 = .ok (.ireturn, 1) := by decide +kernel
theorem dX1_nextSeed_0 : decode cX1_nextSeed 0 = .ok (.ldc2_w 34, 3) := by decide +kernel
theorem dX1_nextSeed_3 : decode cX1_nextSeed 3 = .ok (.iload_n 0, 1) := by decide +kernel
theorem dX1_nextSeed_4 : decode cX1_nextSeed 4 = .ok (.i2l, 1) := by decide +kernel
theorem dX1_nextSeed_5 : decode cX1_nextSeed 5 = .ok (.lmul, 1) := by decide +kernel
theorem dX1_nextSeed_6 : decode cX1_nextSeed 6 = .ok (.ldc2_w 36, 3) := by decide +kernel
theorem dX1_nextSeed_9 : decode cX1_nextSeed 9 = .ok (.ladd, 1) := by decide +kernel
theorem dX1_nextSeed_10 : decode cX1_nextSeed 10 = .ok (.ldc2_w 38, 3) := by decide +kernel
theorem dX1_nextSeed_13 : decode cX1_nextSeed 13 = .ok (.land, 1) := by decide +kernel
theorem dX1_nextSeed_14 : decode cX1_nextSeed 14 = .ok (.l2i, 1) := by decide +kernel
theorem dX1_nextSeed_15 : decode cX1_nextSeed 15 = .ok (.ireturn, 1) := by decide +kernel
theorem dX1_rest_0 : decode cX1_rest 0 = .ok (.iload_n 1, 1) := by decide +kernel
theorem dX1_rest_1 : decode cX1_rest 1 = .ok (.ifCond .le 12, 3) := by decide +kernel
theorem dX1_rest_4 : decode cX1_rest 4 = .ok (.iload_n 0, 1) := by decide +kernel
theorem dX1_rest_5 : decode cX1_rest 5 = .ok (.ldc 40, 2) := by decide +kernel
theorem dX1_rest_7 : decode cX1_rest 7 = .ok (.idiv, 1) := by decide +kernel
theorem dX1_rest_8 : decode cX1_rest 8 = .ok (.iload_n 1, 1) := by decide +kernel
theorem dX1_rest_9 : decode cX1_rest 9 = .ok (.irem, 1) := by decide +kernel
theorem dX1_rest_10 : decode cX1_rest 10 = .ok (.goto 4, 3) := by decide +kernel
theorem dX1_rest_13 : decode cX1_rest 13 = .ok (.iconst 0, 1) := by decide +kernel
theorem dX1_rest_14 : decode cX1_rest 14 = .ok (.ireturn, 1) := by decide +kernel
theorem dX2_init_0 : decode cX2_init 0 = .ok (.aload_n 0, 1) := by decide +kernel
theorem dX2_init_1 : decode cX2_init 1 = .ok (.invokespecial 3, 3) := by decide +kernel
theorem dX2_init_4 : decode cX2_init 4 = .ok (.aload_n 0, 1) := by decide +kernel
theorem dX2_init_5 : decode cX2_init 5 = .ok (.new 9, 3) := by decide +kernel
theorem dX2_init_8 : decode cX2_init 8 = .ok (.dup, 1) := by decide +kernel
theorem dX2_init_9 : decode cX2_init 9 = .ok (.invokespecial 11, 3) := by decide +kernel
theorem dX2_init_12 : decode cX2_init 12 = .ok (.putfield 12, 3) := by decide +kernel
theorem dX2_init_15 : decode cX2_init 15 = .ok (.return_, 1) := by decide +kernel
theorem dX2_run_0 : decode cX2_run 0 = .ok (.aload_n 0, 1) := by decide +kernel
theorem dX2_run_1 : decode cX2_run 1 = .ok (.getfield 12, 3) := by decide +kernel
theorem dX2_run_4 : decode cX2_run 4 = .ok (.aload_n 1, 1) := by decide +kernel
theorem dX2_run_5 : decode cX2_run 5 = .ok (.invokevirtual 18, 3) := by decide +kernel
theorem dX2_run_8 : decode cX2_run 8 = .ok (.aload_n 0, 1) := by decide +kernel
theorem dX2_run_9 : decode cX2_run 9 = .ok (.iconst 0, 1) := by decide +kernel
theorem dX2_run_10 : decode cX2_run 10 = .ok (.putfield 22, 3) := by decide +kernel
theorem dX2_run_13 : decode cX2_run 13 = .ok (.aload_n 0, 1) := by decide +kernel
theorem dX2_run_14 : decode cX2_run 14 = .ok (.iconst (-1), 1) := by decide +kernel
theorem dX2_run_15 : decode cX2_run 15 = .ok (.putfield 26, 3) := by decide +kernel
theorem dX2_run_18 : decode cX2_run 18 = .ok (.iconst 1, 1) := by decide +kernel
theorem dX2_run_19 : decode cX2_run 19 = .ok (.istore 5, 2) := by decide +kernel
theorem dX2_run_21 : decode cX2_run 21 = .ok (.iload 5, 2) := by decide +kernel
theorem dX2_run_23 : decode cX2_run 23 = .ok (.iload 4, 2) := by decide +kernel
theorem dX2_run_25 : decode cX2_run 25 = .ok (.if_icmp .gt 64, 3) := by decide +kernel
theorem dX2_run_28 : decode cX2_run 28 = .ok (.aload_n 3, 1) := by decide +kernel
theorem dX2_run_29 : decode cX2_run 29 = .ok (.aload_n 0, 1) := by decide +kernel
theorem dX2_run_30 : decode cX2_run 30 = .ok (.getfield 12, 3) := by decide +kernel
theorem dX2_run_33 : decode cX2_run 33 = .ok (.aload_n 2, 1) := by decide +kernel
theorem dX2_run_34 : decode cX2_run 34 = .ok (.invokevirtual 29, 3) := by decide +kernel
theorem dX2_run_37 : decode cX2_run 37 = .ok (.aload_n 3, 1) := by decide +kernel
theorem dX2_run_38 : decode cX2_run 38 = .ok (.invokevirtual 35, 3) := by decide +kernel
theorem dX2_run_41 : decode cX2_run 41 = .ok (.ifCond .le 18, 3) := by decide +kernel
theorem dX2_run_44 : decode cX2_run 44 = .ok (.aload_n 0, 1) := by decide +kernel
theorem dX2_run_45 : decode cX2_run 45 = .ok (.getfield 12, 3) := by decide +kernel
theorem dX2_run_48 : decode cX2_run 48 = .ok (.aload_n 3, 1) := by decide +kernel
theorem dX2_run_49 : decode cX2_run 49 = .ok (.invokevirtual 39, 3) := by decide +kernel
theorem dX2_run_52 : decode cX2_run 52 = .ok (.aload_n 2, 1) := by decide +kernel
theorem dX2_run_53 : decode cX2_run 53 = .ok (.invokevirtual 43, 3) := by decide +kernel
theorem dX2_run_56 : decode cX2_run 56 = .ok (.invokevirtual 49, 3) := by decide +kernel
theorem dX2_run_59 : decode cX2_run 59 = .ok (.aload_n 0, 1) := by decide +kernel
theorem dX2_run_60 : decode cX2_run 60 = .ok (.getfield 12, 3) := by decide +kernel
theorem dX2_run_63 : decode cX2_run 63 = .ok (.invokevirtual 53, 3) := by decide +kernel
theorem dX2_run_66 : decode cX2_run 66 = .ok (.aload_n 0, 1) := by decide +kernel
theorem dX2_run_67 : decode cX2_run 67 = .ok (.iload 5, 2) := by decide +kernel
theorem dX2_run_69 : decode cX2_run 69 = .ok (.aload_n 0, 1) := by decide +kernel
theorem dX2_run_70 : decode cX2_run 70 = .ok (.getfield 12, 3) := by decide +kernel
theorem dX2_run_73 : decode cX2_run 73 = .ok (.aload_n 2, 1) := by decide +kernel
theorem dX2_run_74 : decode cX2_run 74 = .ok (.invokevirtual 56, 3) := by decide +kernel
theorem dX2_run_77 : decode cX2_run 77 = .ok (.invokevirtual 59, 3) := by decide +kernel
theorem dX2_run_80 : decode cX2_run 80 = .ok (.invokevirtual 63, 3) := by decide +kernel
theorem dX2_run_83 : decode cX2_run 83 = .ok (.iinc 5 1, 3) := by decide +kernel
theorem dX2_run_86 : decode cX2_run 86 = .ok (.goto (-65), 3) := by decide +kernel
theorem dX2_run_89 : decode cX2_run 89 = .ok (.return_, 1) := by decide +kernel
theorem dX2_note_0 : decode cX2_note 0 = .ok (.iload_n 2, 1) := by decide +kernel
theorem dX2_note_1 : decode cX2_note 1 = .ok (.ifCond .le 16, 3) := by decide +kernel
theorem dX2_note_4 : decode cX2_note 4 = .ok (.aload_n 0, 1) := by decide +kernel
theorem dX2_note_5 : decode cX2_note 5 = .ok (.getfield 26, 3) := by decide +kernel
theorem dX2_note_8 : decode cX2_note 8 = .ok (.iconst (-1), 1) := by decide +kernel
theorem dX2_note_9 : decode cX2_note 9 = .ok (.if_icmp .ne 8, 3) := by decide +kernel
theorem dX2_note_12 : decode cX2_note 12 = .ok (.aload_n 0, 1) := by decide +kernel
theorem dX2_note_13 : decode cX2_note 13 = .ok (.iload_n 1, 1) := by decide +kernel
theorem dX2_note_14 : decode cX2_note 14 = .ok (.putfield 26, 3) := by decide +kernel
theorem dX2_note_17 : decode cX2_note 17 = .ok (.aload_n 0, 1) := by decide +kernel
theorem dX2_note_18 : decode cX2_note 18 = .ok (.dup, 1) := by decide +kernel
theorem dX2_note_19 : decode cX2_note 19 = .ok (.getfield 22, 3) := by decide +kernel
theorem dX2_note_22 : decode cX2_note 22 = .ok (.iload_n 2, 1) := by decide +kernel
theorem dX2_note_23 : decode cX2_note 23 = .ok (.iadd, 1) := by decide +kernel
theorem dX2_note_24 : decode cX2_note 24 = .ok (.putfield 22, 3) := by decide +kernel
theorem dX2_note_27 : decode cX2_note 27 = .ok (.return_, 1) := by decide +kernel
theorem dX2_told_0 : decode cX2_told 0 = .ok (.iload_n 1, 1) := by decide +kernel
theorem dX2_told_1 : decode cX2_told 1 = .ok (.lookupswitch 37 #[(0, 27), (1, 32)], 27) := by decide +kernel
theorem dX2_told_28 : decode cX2_told 28 = .ok (.aload_n 0, 1) := by decide +kernel
theorem dX2_told_29 : decode cX2_told 29 = .ok (.getfield 22, 3) := by decide +kernel
theorem dX2_told_32 : decode cX2_told 32 = .ok (.ireturn, 1) := by decide +kernel
theorem dX2_told_33 : decode cX2_told 33 = .ok (.aload_n 0, 1) := by decide +kernel
theorem dX2_told_34 : decode cX2_told 34 = .ok (.getfield 26, 3) := by decide +kernel
theorem dX2_told_37 : decode cX2_told 37 = .ok (.ireturn, 1) := by decide +kernel
theorem dX2_told_38 : decode cX2_told 38 = .ok (.aload_n 0, 1) := by decide +kernel
theorem dX2_told_39 : decode cX2_told 39 = .ok (.getfield 12, 3) := by decide +kernel
theorem dX2_told_42 : decode cX2_told 42 = .ok (.invokevirtual 67, 3) := by decide +kernel
theorem dX2_told_45 : decode cX2_told 45 = .ok (.ireturn, 1) := by decide +kernel
theorem dX3_init_0 : decode cX3_init 0 = .ok (.aload_n 0, 1) := by decide +kernel
theorem dX3_init_1 : decode cX3_init 1 = .ok (.invokespecial 3, 3) := by decide +kernel
theorem dX3_init_4 : decode cX3_init 4 = .ok (.aload_n 0, 1) := by decide +kernel
theorem dX3_init_5 : decode cX3_init 5 = .ok (.sipush 128, 3) := by decide +kernel
theorem dX3_init_8 : decode cX3_init 8 = .ok (.newarray .int, 2) := by decide +kernel
theorem dX3_init_10 : decode cX3_init 10 = .ok (.putfield 11, 3) := by decide +kernel
theorem dX3_init_13 : decode cX3_init 13 = .ok (.aload_n 0, 1) := by decide +kernel
theorem dX3_init_14 : decode cX3_init 14 = .ok (.bipush 7, 2) := by decide +kernel
theorem dX3_init_16 : decode cX3_init 16 = .ok (.newarray .int, 2) := by decide +kernel
theorem dX3_init_18 : decode cX3_init 18 = .ok (.putfield 15, 3) := by decide +kernel
theorem dX3_init_21 : decode cX3_init 21 = .ok (.aload_n 0, 1) := by decide +kernel
theorem dX3_init_22 : decode cX3_init 22 = .ok (.new 18, 3) := by decide +kernel
theorem dX3_init_25 : decode cX3_init 25 = .ok (.dup, 1) := by decide +kernel
theorem dX3_init_26 : decode cX3_init 26 = .ok (.invokespecial 20, 3) := by decide +kernel
theorem dX3_init_29 : decode cX3_init 29 = .ok (.putfield 21, 3) := by decide +kernel
theorem dX3_init_32 : decode cX3_init 32 = .ok (.return_, 1) := by decide +kernel
theorem dX3_study_0 : decode cX3_study 0 = .ok (.aload_n 0, 1) := by decide +kernel
theorem dX3_study_1 : decode cX3_study 1 = .ok (.aload_n 1, 1) := by decide +kernel
theorem dX3_study_2 : decode cX3_study 2 = .ok (.invokevirtual 25, 3) := by decide +kernel
theorem dX3_study_5 : decode cX3_study 5 = .ok (.putfield 31, 3) := by decide +kernel
theorem dX3_study_8 : decode cX3_study 8 = .ok (.iconst 0, 1) := by decide +kernel
theorem dX3_study_9 : decode cX3_study 9 = .ok (.istore_n 2, 1) := by decide +kernel
theorem dX3_study_10 : decode cX3_study 10 = .ok (.iload_n 2, 1) := by decide +kernel
theorem dX3_study_11 : decode cX3_study 11 = .ok (.aload_n 0, 1) := by decide +kernel
theorem dX3_study_12 : decode cX3_study 12 = .ok (.getfield 31, 3) := by decide +kernel
theorem dX3_study_15 : decode cX3_study 15 = .ok (.if_icmp .ge 20, 3) := by decide +kernel
theorem dX3_study_18 : decode cX3_study 18 = .ok (.aload_n 0, 1) := by decide +kernel
theorem dX3_study_19 : decode cX3_study 19 = .ok (.getfield 15, 3) := by decide +kernel
theorem dX3_study_22 : decode cX3_study 22 = .ok (.iload_n 2, 1) := by decide +kernel
theorem dX3_study_23 : decode cX3_study 23 = .ok (.aload_n 1, 1) := by decide +kernel
theorem dX3_study_24 : decode cX3_study 24 = .ok (.iload_n 2, 1) := by decide +kernel
theorem dX3_study_25 : decode cX3_study 25 = .ok (.invokestatic 34, 3) := by decide +kernel
theorem dX3_study_28 : decode cX3_study 28 = .ok (.iastore, 1) := by decide +kernel
theorem dX3_study_29 : decode cX3_study 29 = .ok (.iinc 2 1, 3) := by decide +kernel
theorem dX3_study_32 : decode cX3_study 32 = .ok (.goto (-22), 3) := by decide +kernel
theorem dX3_study_35 : decode cX3_study 35 = .ok (.aload_n 0, 1) := by decide +kernel
theorem dX3_study_36 : decode cX3_study 36 = .ok (.invokevirtual 38, 3) := by decide +kernel
theorem dX3_study_39 : decode cX3_study 39 = .ok (.return_, 1) := by decide +kernel
theorem dX3_ordersFound_0 : decode cX3_ordersFound 0 = .ok (.aload_n 0, 1) := by decide +kernel
theorem dX3_ordersFound_1 : decode cX3_ordersFound 1 = .ok (.getfield 11, 3) := by decide +kernel
theorem dX3_ordersFound_4 : decode cX3_ordersFound 4 = .ok (.iconst 0, 1) := by decide +kernel
theorem dX3_ordersFound_5 : decode cX3_ordersFound 5 = .ok (.iaload, 1) := by decide +kernel
theorem dX3_ordersFound_6 : decode cX3_ordersFound 6 = .ok (.ireturn, 1) := by decide +kernel
theorem dX3_firstOrder_0 : decode cX3_firstOrder 0 = .ok (.aload_n 0, 1) := by decide +kernel
theorem dX3_firstOrder_1 : decode cX3_firstOrder 1 = .ok (.getfield 21, 3) := by decide +kernel
theorem dX3_firstOrder_4 : decode cX3_firstOrder 4 = .ok (.invokevirtual 41, 3) := by decide +kernel
theorem dX3_firstOrder_7 : decode cX3_firstOrder 7 = .ok (.iconst 0, 1) := by decide +kernel
theorem dX3_firstOrder_8 : decode cX3_firstOrder 8 = .ok (.istore_n 1, 1) := by decide +kernel
theorem dX3_firstOrder_9 : decode cX3_firstOrder 9 = .ok (.iconst 0, 1) := by decide +kernel
theorem dX3_firstOrder_10 : decode cX3_firstOrder 10 = .ok (.istore_n 2, 1) := by decide +kernel
theorem dX3_firstOrder_11 : decode cX3_firstOrder 11 = .ok (.iload_n 2, 1) := by decide +kernel
theorem dX3_firstOrder_12 : decode cX3_firstOrder 12 = .ok (.aload_n 0, 1) := by decide +kernel
theorem dX3_firstOrder_13 : decode cX3_firstOrder 13 = .ok (.getfield 31, 3) := by decide +kernel
theorem dX3_firstOrder_16 : decode cX3_firstOrder 16 = .ok (.if_icmp .ge 30, 3) := by decide +kernel
theorem dX3_firstOrder_19 : decode cX3_firstOrder 19 = .ok (.aload_n 0, 1) := by decide +kernel
theorem dX3_firstOrder_20 : decode cX3_firstOrder 20 = .ok (.iload_n 1, 1) := by decide +kernel
theorem dX3_firstOrder_21 : decode cX3_firstOrder 21 = .ok (.iload_n 2, 1) := by decide +kernel
theorem dX3_firstOrder_22 : decode cX3_firstOrder 22 = .ok (.invokevirtual 44, 3) := by decide +kernel
theorem dX3_firstOrder_25 : decode cX3_firstOrder 25 = .ok (.istore_n 3, 1) := by decide +kernel
theorem dX3_firstOrder_26 : decode cX3_firstOrder 26 = .ok (.iload_n 1, 1) := by decide +kernel
theorem dX3_firstOrder_27 : decode cX3_firstOrder 27 = .ok (.iconst 1, 1) := by decide +kernel
theorem dX3_firstOrder_28 : decode cX3_firstOrder 28 = .ok (.iload_n 3, 1) := by decide +kernel
theorem dX3_firstOrder_29 : decode cX3_firstOrder 29 = .ok (.ishl, 1) := by decide +kernel
theorem dX3_firstOrder_30 : decode cX3_firstOrder 30 = .ok (.ior, 1) := by decide +kernel
theorem dX3_firstOrder_31 : decode cX3_firstOrder 31 = .ok (.istore_n 1, 1) := by decide +kernel
theorem dX3_firstOrder_32 : decode cX3_firstOrder 32 = .ok (.aload_n 0, 1) := by decide +kernel
theorem dX3_firstOrder_33 : decode cX3_firstOrder 33 = .ok (.getfield 21, 3) := by decide +kernel
theorem dX3_firstOrder_36 : decode cX3_firstOrder 36 = .ok (.iload_n 3, 1) := by decide +kernel
theorem dX3_firstOrder_37 : decode cX3_firstOrder 37 = .ok (.invokevirtual 48, 3) := by decide +kernel
theorem dX3_firstOrder_40 : decode cX3_firstOrder 40 = .ok (.iinc 2 1, 3) := by decide +kernel
theorem dX3_firstOrder_43 : decode cX3_firstOrder 43 = .ok (.goto (-32), 3) := by decide +kernel
theorem dX3_firstOrder_46 : decode cX3_firstOrder 46 = .ok (.aload_n 0, 1) := by decide +kernel
theorem dX3_firstOrder_47 : decode cX3_firstOrder 47 = .ok (.getfield 21, 3) := by decide +kernel
theorem dX3_firstOrder_50 : decode cX3_firstOrder 50 = .ok (.areturn, 1) := by decide +kernel
theorem dX3_surePlaceOf_0 : decode cX3_surePlaceOf 0 = .ok (.aload_n 0, 1) := by decide +kernel
theorem dX3_surePlaceOf_1 : decode cX3_surePlaceOf 1 = .ok (.invokevirtual 52, 3) := by decide +kernel
theorem dX3_surePlaceOf_4 : decode cX3_surePlaceOf 4 = .ok (.ifCond .ne 5, 3) := by decide +kernel
theorem dX3_surePlaceOf_7 : decode cX3_surePlaceOf 7 = .ok (.iconst (-1), 1) := by decide +kernel
theorem dX3_surePlaceOf_8 : decode cX3_surePlaceOf 8 = .ok (.ireturn, 1) := by decide +kernel
theorem dX3_surePlaceOf_9 : decode cX3_surePlaceOf 9 = .ok (.aload_n 0, 1) := by decide +kernel
theorem dX3_surePlaceOf_10 : decode cX3_surePlaceOf 10 = .ok (.invokevirtual 55, 3) := by decide +kernel
theorem dX3_surePlaceOf_13 : decode cX3_surePlaceOf 13 = .ok (.iload_n 1, 1) := by decide +kernel
theorem dX3_surePlaceOf_14 : decode cX3_surePlaceOf 14 = .ok (.invokestatic 59, 3) := by decide +kernel
theorem dX3_surePlaceOf_17 : decode cX3_surePlaceOf 17 = .ok (.istore_n 2, 1) := by decide +kernel
theorem dX3_surePlaceOf_18 : decode cX3_surePlaceOf 18 = .ok (.aload_n 0, 1) := by decide +kernel
theorem dX3_surePlaceOf_19 : decode cX3_surePlaceOf 19 = .ok (.getfield 15, 3) := by decide +kernel
theorem dX3_surePlaceOf_22 : decode cX3_surePlaceOf 22 = .ok (.iload_n 1, 1) := by decide +kernel
theorem dX3_surePlaceOf_23 : decode cX3_surePlaceOf 23 = .ok (.dup2, 1) := by decide +kernel
theorem dX3_surePlaceOf_24 : decode cX3_surePlaceOf 24 = .ok (.iaload, 1) := by decide +kernel
theorem dX3_surePlaceOf_25 : decode cX3_surePlaceOf 25 = .ok (.iconst 1, 1) := by decide +kernel
theorem dX3_surePlaceOf_26 : decode cX3_surePlaceOf 26 = .ok (.iload_n 2, 1) := by decide +kernel
theorem dX3_surePlaceOf_27 : decode cX3_surePlaceOf 27 = .ok (.ishl, 1) := by decide +kernel
theorem dX3_surePlaceOf_28 : decode cX3_surePlaceOf 28 = .ok (.iconst (-1), 1) := by decide +kernel
theorem dX3_surePlaceOf_29 : decode cX3_surePlaceOf 29 = .ok (.ixor, 1) := by decide +kernel
theorem dX3_surePlaceOf_30 : decode cX3_surePlaceOf 30 = .ok (.iand, 1) := by decide +kernel
theorem dX3_surePlaceOf_31 : decode cX3_surePlaceOf 31 = .ok (.iastore, 1) := by decide +kernel
theorem dX3_surePlaceOf_32 : decode cX3_surePlaceOf 32 = .ok (.aload_n 0, 1) := by decide +kernel
theorem dX3_surePlaceOf_33 : decode cX3_surePlaceOf 33 = .ok (.invokevirtual 38, 3) := by decide +kernel
theorem dX3_surePlaceOf_36 : decode cX3_surePlaceOf 36 = .ok (.aload_n 0, 1) := by decide +kernel
theorem dX3_surePlaceOf_37 : decode cX3_surePlaceOf 37 = .ok (.invokevirtual 52, 3) := by decide +kernel
theorem dX3_surePlaceOf_40 : decode cX3_surePlaceOf 40 = .ok (.ifCond .ne 7, 3) := by decide +kernel
theorem dX3_surePlaceOf_43 : decode cX3_surePlaceOf 43 = .ok (.iload_n 2, 1) := by decide +kernel
theorem dX3_surePlaceOf_44 : decode cX3_surePlaceOf 44 = .ok (.goto 4, 3) := by decide +kernel
theorem dX3_surePlaceOf_47 : decode cX3_surePlaceOf 47 = .ok (.iconst (-1), 1) := by decide +kernel
theorem dX3_surePlaceOf_48 : decode cX3_surePlaceOf 48 = .ok (.ireturn, 1) := by decide +kernel
theorem dX3_placeIn_0 : decode cX3_placeIn 0 = .ok (.iconst 0, 1) := by decide +kernel
theorem dX3_placeIn_1 : decode cX3_placeIn 1 = .ok (.istore_n 2, 1) := by decide +kernel
theorem dX3_placeIn_2 : decode cX3_placeIn 2 = .ok (.iload_n 2, 1) := by decide +kernel
theorem dX3_placeIn_3 : decode cX3_placeIn 3 = .ok (.iconst 1, 1) := by decide +kernel
theorem dX3_placeIn_4 : decode cX3_placeIn 4 = .ok (.iadd, 1) := by decide +kernel
theorem dX3_placeIn_5 : decode cX3_placeIn 5 = .ok (.aload_n 0, 1) := by decide +kernel
theorem dX3_placeIn_6 : decode cX3_placeIn 6 = .ok (.invokevirtual 63, 3) := by decide +kernel
theorem dX3_placeIn_9 : decode cX3_placeIn 9 = .ok (.if_icmp .ge 18, 3) := by decide +kernel
theorem dX3_placeIn_12 : decode cX3_placeIn 12 = .ok (.aload_n 0, 1) := by decide +kernel
theorem dX3_placeIn_13 : decode cX3_placeIn 13 = .ok (.iload_n 2, 1) := by decide +kernel
theorem dX3_placeIn_14 : decode cX3_placeIn 14 = .ok (.invokevirtual 64, 3) := by decide +kernel
theorem dX3_placeIn_17 : decode cX3_placeIn 17 = .ok (.iload_n 1, 1) := by decide +kernel
theorem dX3_placeIn_18 : decode cX3_placeIn 18 = .ok (.if_icmp .eq 9, 3) := by decide +kernel
theorem dX3_placeIn_21 : decode cX3_placeIn 21 = .ok (.iinc 2 1, 3) := by decide +kernel
theorem dX3_placeIn_24 : decode cX3_placeIn 24 = .ok (.goto (-22), 3) := by decide +kernel
theorem dX3_placeIn_27 : decode cX3_placeIn 27 = .ok (.iload_n 2, 1) := by decide +kernel
theorem dX3_placeIn_28 : decode cX3_placeIn 28 = .ok (.ireturn, 1) := by decide +kernel
theorem dX3_placesFitting_0 : decode cX3_placesFitting 0 = .ok (.iconst 0, 1) := by decide +kernel
theorem dX3_placesFitting_1 : decode cX3_placesFitting 1 = .ok (.istore_n 2, 1) := by decide +kernel
theorem dX3_placesFitting_2 : decode cX3_placesFitting 2 = .ok (.iconst 0, 1) := by decide +kernel
theorem dX3_placesFitting_3 : decode cX3_placesFitting 3 = .ok (.istore_n 3, 1) := by decide +kernel
theorem dX3_placesFitting_4 : decode cX3_placesFitting 4 = .ok (.iload_n 3, 1) := by decide +kernel
theorem dX3_placesFitting_5 : decode cX3_placesFitting 5 = .ok (.aload_n 0, 1) := by decide +kernel
theorem dX3_placesFitting_6 : decode cX3_placesFitting 6 = .ok (.invokevirtual 25, 3) := by decide +kernel
theorem dX3_placesFitting_9 : decode cX3_placesFitting 9 = .ok (.if_icmp .ge 24, 3) := by decide +kernel
theorem dX3_placesFitting_12 : decode cX3_placesFitting 12 = .ok (.aload_n 0, 1) := by decide +kernel
theorem dX3_placesFitting_13 : decode cX3_placesFitting 13 = .ok (.iload_n 1, 1) := by decide +kernel
theorem dX3_placesFitting_14 : decode cX3_placesFitting 14 = .ok (.iload_n 3, 1) := by decide +kernel
theorem dX3_placesFitting_15 : decode cX3_placesFitting 15 = .ok (.invokestatic 68, 3) := by decide +kernel
theorem dX3_placesFitting_18 : decode cX3_placesFitting 18 = .ok (.ifCond .eq 9, 3) := by decide +kernel
theorem dX3_placesFitting_21 : decode cX3_placesFitting 21 = .ok (.iload_n 2, 1) := by decide +kernel
theorem dX3_placesFitting_22 : decode cX3_placesFitting 22 = .ok (.iconst 1, 1) := by decide +kernel
theorem dX3_placesFitting_23 : decode cX3_placesFitting 23 = .ok (.iload_n 3, 1) := by decide +kernel
theorem dX3_placesFitting_24 : decode cX3_placesFitting 24 = .ok (.ishl, 1) := by decide +kernel
theorem dX3_placesFitting_25 : decode cX3_placesFitting 25 = .ok (.ior, 1) := by decide +kernel
theorem dX3_placesFitting_26 : decode cX3_placesFitting 26 = .ok (.istore_n 2, 1) := by decide +kernel
theorem dX3_placesFitting_27 : decode cX3_placesFitting 27 = .ok (.iinc 3 1, 3) := by decide +kernel
theorem dX3_placesFitting_30 : decode cX3_placesFitting 30 = .ok (.goto (-26), 3) := by decide +kernel
theorem dX3_placesFitting_33 : decode cX3_placesFitting 33 = .ok (.iload_n 2, 1) := by decide +kernel
theorem dX3_placesFitting_34 : decode cX3_placesFitting 34 = .ok (.ireturn, 1) := by decide +kernel
theorem dX3_fits_0 : decode cX3_fits 0 = .ok (.aload_n 0, 1) := by decide +kernel
theorem dX3_fits_1 : decode cX3_fits 1 = .ok (.iload_n 1, 1) := by decide +kernel
theorem dX3_fits_2 : decode cX3_fits 2 = .ok (.invokevirtual 72, 3) := by decide +kernel
theorem dX3_fits_5 : decode cX3_fits 5 = .ok (.istore_n 3, 1) := by decide +kernel
theorem dX3_fits_6 : decode cX3_fits 6 = .ok (.iload_n 3, 1) := by decide +kernel
theorem dX3_fits_7 : decode cX3_fits 7 = .ok (.iconst (-1), 1) := by decide +kernel
theorem dX3_fits_8 : decode cX3_fits 8 = .ok (.if_icmp .eq 18, 3) := by decide +kernel
theorem dX3_fits_11 : decode cX3_fits 11 = .ok (.aload_n 0, 1) := by decide +kernel
theorem dX3_fits_12 : decode cX3_fits 12 = .ok (.iload_n 3, 1) := by decide +kernel
theorem dX3_fits_13 : decode cX3_fits 13 = .ok (.iload_n 1, 1) := by decide +kernel
theorem dX3_fits_14 : decode cX3_fits 14 = .ok (.iload_n 2, 1) := by decide +kernel
theorem dX3_fits_15 : decode cX3_fits 15 = .ok (.invokevirtual 75, 3) := by decide +kernel
theorem dX3_fits_18 : decode cX3_fits 18 = .ok (.aload_n 0, 1) := by decide +kernel
theorem dX3_fits_19 : decode cX3_fits 19 = .ok (.iload_n 1, 1) := by decide +kernel
theorem dX3_fits_20 : decode cX3_fits 20 = .ok (.invokevirtual 79, 3) := by decide +kernel
theorem dX3_fits_23 : decode cX3_fits 23 = .ok (.if_icmp .ne 7, 3) := by decide +kernel
theorem dX3_fits_26 : decode cX3_fits 26 = .ok (.iconst 1, 1) := by decide +kernel
theorem dX3_fits_27 : decode cX3_fits 27 = .ok (.goto 4, 3) := by decide +kernel
theorem dX3_fits_30 : decode cX3_fits 30 = .ok (.iconst 0, 1) := by decide +kernel
theorem dX3_fits_31 : decode cX3_fits 31 = .ok (.ireturn, 1) := by decide +kernel
theorem dX3_countWays_0 : decode cX3_countWays 0 = .ok (.iconst 1, 1) := by decide +kernel
theorem dX3_countWays_1 : decode cX3_countWays 1 = .ok (.aload_n 0, 1) := by decide +kernel
theorem dX3_countWays_2 : decode cX3_countWays 2 = .ok (.getfield 31, 3) := by decide +kernel
theorem dX3_countWays_5 : decode cX3_countWays 5 = .ok (.ishl, 1) := by decide +kernel
theorem dX3_countWays_6 : decode cX3_countWays 6 = .ok (.iconst 1, 1) := by decide +kernel
theorem dX3_countWays_7 : decode cX3_countWays 7 = .ok (.isub, 1) := by decide +kernel
theorem dX3_countWays_8 : decode cX3_countWays 8 = .ok (.istore_n 1, 1) := by decide +kernel
theorem dX3_countWays_9 : decode cX3_countWays 9 = .ok (.aload_n 0, 1) := by decide +kernel
theorem dX3_countWays_10 : decode cX3_countWays 10 = .ok (.getfield 11, 3) := by decide +kernel
theorem dX3_countWays_13 : decode cX3_countWays 13 = .ok (.iload_n 1, 1) := by decide +kernel
theorem dX3_countWays_14 : decode cX3_countWays 14 = .ok (.iconst 1, 1) := by decide +kernel
theorem dX3_countWays_15 : decode cX3_countWays 15 = .ok (.iastore, 1) := by decide +kernel
theorem dX3_countWays_16 : decode cX3_countWays 16 = .ok (.iload_n 1, 1) := by decide +kernel
theorem dX3_countWays_17 : decode cX3_countWays 17 = .ok (.iconst 1, 1) := by decide +kernel
theorem dX3_countWays_18 : decode cX3_countWays 18 = .ok (.isub, 1) := by decide +kernel
theorem dX3_countWays_19 : decode cX3_countWays 19 = .ok (.istore_n 2, 1) := by decide +kernel
theorem dX3_countWays_20 : decode cX3_countWays 20 = .ok (.iload_n 2, 1) := by decide +kernel
theorem dX3_countWays_21 : decode cX3_countWays 21 = .ok (.ifCond .lt 70, 3) := by decide +kernel
theorem dX3_countWays_24 : decode cX3_countWays 24 = .ok (.iload_n 2, 1) := by decide +kernel
theorem dX3_countWays_25 : decode cX3_countWays 25 = .ok (.invokestatic 82, 3) := by decide +kernel
theorem dX3_countWays_28 : decode cX3_countWays 28 = .ok (.istore_n 3, 1) := by decide +kernel
theorem dX3_countWays_29 : decode cX3_countWays 29 = .ok (.iconst 0, 1) := by decide +kernel
theorem dX3_countWays_30 : decode cX3_countWays 30 = .ok (.istore 4, 2) := by decide +kernel
theorem dX3_countWays_32 : decode cX3_countWays 32 = .ok (.iconst 0, 1) := by decide +kernel
theorem dX3_countWays_33 : decode cX3_countWays 33 = .ok (.istore 5, 2) := by decide +kernel
theorem dX3_countWays_35 : decode cX3_countWays 35 = .ok (.iload 5, 2) := by decide +kernel
theorem dX3_countWays_37 : decode cX3_countWays 37 = .ok (.aload_n 0, 1) := by decide +kernel
theorem dX3_countWays_38 : decode cX3_countWays 38 = .ok (.getfield 31, 3) := by decide +kernel
theorem dX3_countWays_41 : decode cX3_countWays 41 = .ok (.if_icmp .ge 36, 3) := by decide +kernel
theorem dX3_countWays_44 : decode cX3_countWays 44 = .ok (.aload_n 0, 1) := by decide +kernel
theorem dX3_countWays_45 : decode cX3_countWays 45 = .ok (.iload_n 2, 1) := by decide +kernel
theorem dX3_countWays_46 : decode cX3_countWays 46 = .ok (.iload 5, 2) := by decide +kernel
theorem dX3_countWays_48 : decode cX3_countWays 48 = .ok (.iload_n 3, 1) := by decide +kernel
theorem dX3_countWays_49 : decode cX3_countWays 49 = .ok (.invokevirtual 87, 3) := by decide +kernel
theorem dX3_countWays_52 : decode cX3_countWays 52 = .ok (.ifCond .eq 19, 3) := by decide +kernel
theorem dX3_countWays_55 : decode cX3_countWays 55 = .ok (.iload 4, 2) := by decide +kernel
theorem dX3_countWays_57 : decode cX3_countWays 57 = .ok (.aload_n 0, 1) := by decide +kernel
theorem dX3_countWays_58 : decode cX3_countWays 58 = .ok (.getfield 11, 3) := by decide +kernel
theorem dX3_countWays_61 : decode cX3_countWays 61 = .ok (.iload_n 2, 1) := by decide +kernel
theorem dX3_countWays_62 : decode cX3_countWays 62 = .ok (.iconst 1, 1) := by decide +kernel
theorem dX3_countWays_63 : decode cX3_countWays 63 = .ok (.iload 5, 2) := by decide +kernel
theorem dX3_countWays_65 : decode cX3_countWays 65 = .ok (.ishl, 1) := by decide +kernel
theorem dX3_countWays_66 : decode cX3_countWays 66 = .ok (.ior, 1) := by decide +kernel
theorem dX3_countWays_67 : decode cX3_countWays 67 = .ok (.iaload, 1) := by decide +kernel
theorem dX3_countWays_68 : decode cX3_countWays 68 = .ok (.iadd, 1) := by decide +kernel
theorem dX3_countWays_69 : decode cX3_countWays 69 = .ok (.istore 4, 2) := by decide +kernel
theorem dX3_countWays_71 : decode cX3_countWays 71 = .ok (.iinc 5 1, 3) := by decide +kernel
theorem dX3_countWays_74 : decode cX3_countWays 74 = .ok (.goto (-39), 3) := by decide +kernel
theorem dX3_countWays_77 : decode cX3_countWays 77 = .ok (.aload_n 0, 1) := by decide +kernel
theorem dX3_countWays_78 : decode cX3_countWays 78 = .ok (.getfield 11, 3) := by decide +kernel
theorem dX3_countWays_81 : decode cX3_countWays 81 = .ok (.iload_n 2, 1) := by decide +kernel
theorem dX3_countWays_82 : decode cX3_countWays 82 = .ok (.iload 4, 2) := by decide +kernel
theorem dX3_countWays_84 : decode cX3_countWays 84 = .ok (.iastore, 1) := by decide +kernel
theorem dX3_countWays_85 : decode cX3_countWays 85 = .ok (.iinc 2 (-1), 3) := by decide +kernel
theorem dX3_countWays_88 : decode cX3_countWays 88 = .ok (.goto (-68), 3) := by decide +kernel
theorem dX3_countWays_91 : decode cX3_countWays 91 = .ok (.return_, 1) := by decide +kernel
theorem dX3_firstFor_0 : decode cX3_firstFor 0 = .ok (.iconst 0, 1) := by decide +kernel
theorem dX3_firstFor_1 : decode cX3_firstFor 1 = .ok (.istore_n 3, 1) := by decide +kernel
theorem dX3_firstFor_2 : decode cX3_firstFor 2 = .ok (.iload_n 3, 1) := by decide +kernel
theorem dX3_firstFor_3 : decode cX3_firstFor 3 = .ok (.aload_n 0, 1) := by decide +kernel
theorem dX3_firstFor_4 : decode cX3_firstFor 4 = .ok (.getfield 31, 3) := by decide +kernel
theorem dX3_firstFor_7 : decode cX3_firstFor 7 = .ok (.if_icmp .ge 34, 3) := by decide +kernel
theorem dX3_firstFor_10 : decode cX3_firstFor 10 = .ok (.aload_n 0, 1) := by decide +kernel
theorem dX3_firstFor_11 : decode cX3_firstFor 11 = .ok (.iload_n 1, 1) := by decide +kernel
theorem dX3_firstFor_12 : decode cX3_firstFor 12 = .ok (.iload_n 3, 1) := by decide +kernel
theorem dX3_firstFor_13 : decode cX3_firstFor 13 = .ok (.iload_n 2, 1) := by decide +kernel
theorem dX3_firstFor_14 : decode cX3_firstFor 14 = .ok (.invokevirtual 87, 3) := by decide +kernel
theorem dX3_firstFor_17 : decode cX3_firstFor 17 = .ok (.ifCond .eq 18, 3) := by decide +kernel
theorem dX3_firstFor_20 : decode cX3_firstFor 20 = .ok (.aload_n 0, 1) := by decide +kernel
theorem dX3_firstFor_21 : decode cX3_firstFor 21 = .ok (.getfield 11, 3) := by decide +kernel
theorem dX3_firstFor_24 : decode cX3_firstFor 24 = .ok (.iload_n 1, 1) := by decide +kernel
theorem dX3_firstFor_25 : decode cX3_firstFor 25 = .ok (.iconst 1, 1) := by decide +kernel
theorem dX3_firstFor_26 : decode cX3_firstFor 26 = .ok (.iload_n 3, 1) := by decide +kernel
theorem dX3_firstFor_27 : decode cX3_firstFor 27 = .ok (.ishl, 1) := by decide +kernel
theorem dX3_firstFor_28 : decode cX3_firstFor 28 = .ok (.ior, 1) := by decide +kernel
theorem dX3_firstFor_29 : decode cX3_firstFor 29 = .ok (.iaload, 1) := by decide +kernel
theorem dX3_firstFor_30 : decode cX3_firstFor 30 = .ok (.ifCond .le 5, 3) := by decide +kernel
theorem dX3_firstFor_33 : decode cX3_firstFor 33 = .ok (.iload_n 3, 1) := by decide +kernel
theorem dX3_firstFor_34 : decode cX3_firstFor 34 = .ok (.ireturn, 1) := by decide +kernel
theorem dX3_firstFor_35 : decode cX3_firstFor 35 = .ok (.iinc 3 1, 3) := by decide +kernel
theorem dX3_firstFor_38 : decode cX3_firstFor 38 = .ok (.goto (-36), 3) := by decide +kernel
theorem dX3_firstFor_41 : decode cX3_firstFor 41 = .ok (.iconst 0, 1) := by decide +kernel
theorem dX3_firstFor_42 : decode cX3_firstFor 42 = .ok (.ireturn, 1) := by decide +kernel
theorem dX3_mayCome_0 : decode cX3_mayCome 0 = .ok (.iload_n 1, 1) := by decide +kernel
theorem dX3_mayCome_1 : decode cX3_mayCome 1 = .ok (.iload_n 2, 1) := by decide +kernel
theorem dX3_mayCome_2 : decode cX3_mayCome 2 = .ok (.ishr, 1) := by decide +kernel
theorem dX3_mayCome_3 : decode cX3_mayCome 3 = .ok (.iconst 1, 1) := by decide +kernel
theorem dX3_mayCome_4 : decode cX3_mayCome 4 = .ok (.iand, 1) := by decide +kernel
theorem dX3_mayCome_5 : decode cX3_mayCome 5 = .ok (.ifCond .ne 21, 3) := by decide +kernel
theorem dX3_mayCome_8 : decode cX3_mayCome 8 = .ok (.aload_n 0, 1) := by decide +kernel
theorem dX3_mayCome_9 : decode cX3_mayCome 9 = .ok (.getfield 15, 3) := by decide +kernel
theorem dX3_mayCome_12 : decode cX3_mayCome 12 = .ok (.iload_n 2, 1) := by decide +kernel
theorem dX3_mayCome_13 : decode cX3_mayCome 13 = .ok (.iaload, 1) := by decide +kernel
theorem dX3_mayCome_14 : decode cX3_mayCome 14 = .ok (.iload_n 3, 1) := by decide +kernel
theorem dX3_mayCome_15 : decode cX3_mayCome 15 = .ok (.ishr, 1) := by decide +kernel
theorem dX3_mayCome_16 : decode cX3_mayCome 16 = .ok (.iconst 1, 1) := by decide +kernel
theorem dX3_mayCome_17 : decode cX3_mayCome 17 = .ok (.iand, 1) := by decide +kernel
theorem dX3_mayCome_18 : decode cX3_mayCome 18 = .ok (.iconst 1, 1) := by decide +kernel
theorem dX3_mayCome_19 : decode cX3_mayCome 19 = .ok (.if_icmp .ne 7, 3) := by decide +kernel
theorem dX3_mayCome_22 : decode cX3_mayCome 22 = .ok (.iconst 1, 1) := by decide +kernel
theorem dX3_mayCome_23 : decode cX3_mayCome 23 = .ok (.goto 4, 3) := by decide +kernel
theorem dX3_mayCome_26 : decode cX3_mayCome 26 = .ok (.iconst 0, 1) := by decide +kernel
theorem dX3_mayCome_27 : decode cX3_mayCome 27 = .ok (.ireturn, 1) := by decide +kernel
theorem dX4_init_0 : decode cX4_init 0 = .ok (.aload_n 0, 1) := by decide +kernel
theorem dX4_init_1 : decode cX4_init 1 = .ok (.invokespecial 1, 3) := by decide +kernel
theorem dX4_init_4 : decode cX4_init 4 = .ok (.aload_n 0, 1) := by decide +kernel
theorem dX4_init_5 : decode cX4_init 5 = .ok (.bipush 10, 2) := by decide +kernel
theorem dX4_init_7 : decode cX4_init 7 = .ok (.putfield 9, 3) := by decide +kernel
theorem dX4_init_10 : decode cX4_init 10 = .ok (.return_, 1) := by decide +kernel
theorem dX4_readFrom_0 : decode cX4_readFrom 0 = .ok (.aload_n 0, 1) := by decide +kernel
theorem dX4_readFrom_1 : decode cX4_readFrom 1 = .ok (.iconst 0, 1) := by decide +kernel
theorem dX4_readFrom_2 : decode cX4_readFrom 2 = .ok (.putfield 13, 3) := by decide +kernel
theorem dX4_readFrom_5 : decode cX4_readFrom 5 = .ok (.aload_n 0, 1) := by decide +kernel
theorem dX4_readFrom_6 : decode cX4_readFrom 6 = .ok (.iconst 0, 1) := by decide +kernel
theorem dX4_readFrom_7 : decode cX4_readFrom 7 = .ok (.putfield 17, 3) := by decide +kernel
theorem dX4_readFrom_10 : decode cX4_readFrom 10 = .ok (.aload_n 0, 1) := by decide +kernel
theorem dX4_readFrom_11 : decode cX4_readFrom 11 = .ok (.iconst 0, 1) := by decide +kernel
theorem dX4_readFrom_12 : decode cX4_readFrom 12 = .ok (.putfield 20, 3) := by decide +kernel
theorem dX4_readFrom_15 : decode cX4_readFrom 15 = .ok (.aload_n 0, 1) := by decide +kernel
theorem dX4_readFrom_16 : decode cX4_readFrom 16 = .ok (.bipush 10, 2) := by decide +kernel
theorem dX4_readFrom_18 : decode cX4_readFrom 18 = .ok (.putfield 9, 3) := by decide +kernel
theorem dX4_readFrom_21 : decode cX4_readFrom 21 = .ok (.iconst 0, 1) := by decide +kernel
theorem dX4_readFrom_22 : decode cX4_readFrom 22 = .ok (.istore_n 2, 1) := by decide +kernel
theorem dX4_readFrom_23 : decode cX4_readFrom 23 = .ok (.iconst 0, 1) := by decide +kernel
theorem dX4_readFrom_24 : decode cX4_readFrom 24 = .ok (.istore_n 3, 1) := by decide +kernel
theorem dX4_readFrom_25 : decode cX4_readFrom 25 = .ok (.iload_n 3, 1) := by decide +kernel
theorem dX4_readFrom_26 : decode cX4_readFrom 26 = .ok (.aload_n 1, 1) := by decide +kernel
theorem dX4_readFrom_27 : decode cX4_readFrom 27 = .ok (.invokevirtual 25, 3) := by decide +kernel
theorem dX4_readFrom_30 : decode cX4_readFrom 30 = .ok (.if_icmp .ge 29, 3) := by decide +kernel
theorem dX4_readFrom_33 : decode cX4_readFrom 33 = .ok (.iload_n 2, 1) := by decide +kernel
theorem dX4_readFrom_34 : decode cX4_readFrom 34 = .ok (.aload_n 1, 1) := by decide +kernel
theorem dX4_readFrom_35 : decode cX4_readFrom 35 = .ok (.iload_n 3, 1) := by decide +kernel
theorem dX4_readFrom_36 : decode cX4_readFrom 36 = .ok (.invokevirtual 29, 3) := by decide +kernel
theorem dX4_readFrom_39 : decode cX4_readFrom 39 = .ok (.invokestatic 33, 3) := by decide +kernel
theorem dX4_readFrom_42 : decode cX4_readFrom 42 = .ok (.istore_n 2, 1) := by decide +kernel
theorem dX4_readFrom_43 : decode cX4_readFrom 43 = .ok (.aload_n 0, 1) := by decide +kernel
theorem dX4_readFrom_44 : decode cX4_readFrom 44 = .ok (.iload_n 2, 1) := by decide +kernel
theorem dX4_readFrom_45 : decode cX4_readFrom 45 = .ok (.aload_n 1, 1) := by decide +kernel
theorem dX4_readFrom_46 : decode cX4_readFrom 46 = .ok (.iload_n 3, 1) := by decide +kernel
theorem dX4_readFrom_47 : decode cX4_readFrom 47 = .ok (.invokevirtual 29, 3) := by decide +kernel
theorem dX4_readFrom_50 : decode cX4_readFrom 50 = .ok (.invokevirtual 37, 3) := by decide +kernel
theorem dX4_readFrom_53 : decode cX4_readFrom 53 = .ok (.iinc 3 1, 3) := by decide +kernel
theorem dX4_readFrom_56 : decode cX4_readFrom 56 = .ok (.goto (-31), 3) := by decide +kernel
theorem dX4_readFrom_59 : decode cX4_readFrom 59 = .ok (.return_, 1) := by decide +kernel
theorem dX4_take_0 : decode cX4_take 0 = .ok (.iload_n 1, 1) := by decide +kernel
theorem dX4_take_1 : decode cX4_take 1 = .ok (.tableswitch 70 1 5 #[35, 43, 51, 70, 59], 35) := by decide +kernel
theorem dX4_take_36 : decode cX4_take 36 = .ok (.aload_n 0, 1) := by decide +kernel
theorem dX4_take_37 : decode cX4_take 37 = .ok (.iconst 1, 1) := by decide +kernel
theorem dX4_take_38 : decode cX4_take 38 = .ok (.putfield 13, 3) := by decide +kernel
theorem dX4_take_41 : decode cX4_take 41 = .ok (.goto 30, 3) := by decide +kernel
theorem dX4_take_44 : decode cX4_take 44 = .ok (.aload_n 0, 1) := by decide +kernel
theorem dX4_take_45 : decode cX4_take 45 = .ok (.iconst 1, 1) := by decide +kernel
theorem dX4_take_46 : decode cX4_take 46 = .ok (.putfield 17, 3) := by decide +kernel
theorem dX4_take_49 : decode cX4_take 49 = .ok (.goto 22, 3) := by decide +kernel
theorem dX4_take_52 : decode cX4_take 52 = .ok (.aload_n 0, 1) := by decide +kernel
theorem dX4_take_53 : decode cX4_take 53 = .ok (.iconst 1, 1) := by decide +kernel
theorem dX4_take_54 : decode cX4_take 54 = .ok (.putfield 20, 3) := by decide +kernel
theorem dX4_take_57 : decode cX4_take 57 = .ok (.goto 14, 3) := by decide +kernel
theorem dX4_take_60 : decode cX4_take 60 = .ok (.aload_n 0, 1) := by decide +kernel
theorem dX4_take_61 : decode cX4_take 61 = .ok (.iload_n 2, 1) := by decide +kernel
theorem dX4_take_62 : decode cX4_take 62 = .ok (.bipush 48, 2) := by decide +kernel
theorem dX4_take_64 : decode cX4_take 64 = .ok (.isub, 1) := by decide +kernel
theorem dX4_take_65 : decode cX4_take 65 = .ok (.putfield 9, 3) := by decide +kernel
theorem dX4_take_68 : decode cX4_take 68 = .ok (.goto 3, 3) := by decide +kernel
theorem dX4_take_71 : decode cX4_take 71 = .ok (.return_, 1) := by decide +kernel
theorem dX4_told_0 : decode cX4_told 0 = .ok (.iload_n 1, 1) := by decide +kernel
theorem dX4_told_1 : decode cX4_told 1 = .ok (.tableswitch 66 0 2 #[27, 40, 53], 27) := by decide +kernel
theorem dX4_told_28 : decode cX4_told 28 = .ok (.aload_n 0, 1) := by decide +kernel
theorem dX4_told_29 : decode cX4_told 29 = .ok (.getfield 13, 3) := by decide +kernel
theorem dX4_told_32 : decode cX4_told 32 = .ok (.ifCond .eq 7, 3) := by decide +kernel
theorem dX4_told_35 : decode cX4_told 35 = .ok (.iconst 1, 1) := by decide +kernel
theorem dX4_told_36 : decode cX4_told 36 = .ok (.goto 4, 3) := by decide +kernel
theorem dX4_told_39 : decode cX4_told 39 = .ok (.iconst 0, 1) := by decide +kernel
theorem dX4_told_40 : decode cX4_told 40 = .ok (.ireturn, 1) := by decide +kernel
theorem dX4_told_41 : decode cX4_told 41 = .ok (.aload_n 0, 1) := by decide +kernel
theorem dX4_told_42 : decode cX4_told 42 = .ok (.getfield 17, 3) := by decide +kernel
theorem dX4_told_45 : decode cX4_told 45 = .ok (.ifCond .eq 7, 3) := by decide +kernel
theorem dX4_told_48 : decode cX4_told 48 = .ok (.iconst 1, 1) := by decide +kernel
theorem dX4_told_49 : decode cX4_told 49 = .ok (.goto 4, 3) := by decide +kernel
theorem dX4_told_52 : decode cX4_told 52 = .ok (.iconst 0, 1) := by decide +kernel
theorem dX4_told_53 : decode cX4_told 53 = .ok (.ireturn, 1) := by decide +kernel
theorem dX4_told_54 : decode cX4_told 54 = .ok (.aload_n 0, 1) := by decide +kernel
theorem dX4_told_55 : decode cX4_told 55 = .ok (.getfield 20, 3) := by decide +kernel
theorem dX4_told_58 : decode cX4_told 58 = .ok (.ifCond .eq 7, 3) := by decide +kernel
theorem dX4_told_61 : decode cX4_told 61 = .ok (.iconst 1, 1) := by decide +kernel
theorem dX4_told_62 : decode cX4_told 62 = .ok (.goto 4, 3) := by decide +kernel
theorem dX4_told_65 : decode cX4_told 65 = .ok (.iconst 0, 1) := by decide +kernel
theorem dX4_told_66 : decode cX4_told 66 = .ok (.ireturn, 1) := by decide +kernel
theorem dX4_told_67 : decode cX4_told 67 = .ok (.aload_n 0, 1) := by decide +kernel
theorem dX4_told_68 : decode cX4_told 68 = .ok (.getfield 9, 3) := by decide +kernel
theorem dX4_told_71 : decode cX4_told 71 = .ok (.ireturn, 1) := by decide +kernel
theorem dX4_turns_0 : decode cX4_turns 0 = .ok (.aload_n 0, 1) := by decide +kernel
theorem dX4_turns_1 : decode cX4_turns 1 = .ok (.getfield 17, 3) := by decide +kernel
theorem dX4_turns_4 : decode cX4_turns 4 = .ok (.ireturn, 1) := by decide +kernel
theorem dX4_wantsTwinsTogether_0 : decode cX4_wantsTwinsTogether 0 = .ok (.aload_n 0, 1) := by decide +kernel
theorem dX4_wantsTwinsTogether_1 : decode cX4_wantsTwinsTogether 1 = .ok (.getfield 20, 3) := by decide +kernel
theorem dX4_wantsTwinsTogether_4 : decode cX4_wantsTwinsTogether 4 = .ok (.ireturn, 1) := by decide +kernel
theorem dX4_burningWear_0 : decode cX4_burningWear 0 = .ok (.aload_n 0, 1) := by decide +kernel
theorem dX4_burningWear_1 : decode cX4_burningWear 1 = .ok (.getfield 9, 3) := by decide +kernel
theorem dX4_burningWear_4 : decode cX4_burningWear 4 = .ok (.bipush 100, 2) := by decide +kernel
theorem dX4_burningWear_6 : decode cX4_burningWear 6 = .ok (.imul, 1) := by decide +kernel
theorem dX4_burningWear_7 : decode cX4_burningWear 7 = .ok (.ireturn, 1) := by decide +kernel
theorem dX4_letsLieTogether_0 : decode cX4_letsLieTogether 0 = .ok (.aload_n 0, 1) := by decide +kernel
theorem dX4_letsLieTogether_1 : decode cX4_letsLieTogether 1 = .ok (.getfield 13, 3) := by decide +kernel
theorem dX4_letsLieTogether_4 : decode cX4_letsLieTogether 4 = .ok (.ifCond .eq 12, 3) := by decide +kernel
theorem dX4_letsLieTogether_7 : decode cX4_letsLieTogether 7 = .ok (.aload_n 1, 1) := by decide +kernel
theorem dX4_letsLieTogether_8 : decode cX4_letsLieTogether 8 = .ok (.iload_n 2, 1) := by decide +kernel
theorem dX4_letsLieTogether_9 : decode cX4_letsLieTogether 9 = .ok (.iload_n 3, 1) := by decide +kernel
theorem dX4_letsLieTogether_10 : decode cX4_letsLieTogether 10 = .ok (.invokevirtual 41, 3) := by decide +kernel
theorem dX4_letsLieTogether_13 : decode cX4_letsLieTogether 13 = .ok (.ifCond .ne 7, 3) := by decide +kernel
theorem dX4_letsLieTogether_16 : decode cX4_letsLieTogether 16 = .ok (.iconst 1, 1) := by decide +kernel
theorem dX4_letsLieTogether_17 : decode cX4_letsLieTogether 17 = .ok (.goto 4, 3) := by decide +kernel
theorem dX4_letsLieTogether_20 : decode cX4_letsLieTogether 20 = .ok (.iconst 0, 1) := by decide +kernel
theorem dX4_letsLieTogether_21 : decode cX4_letsLieTogether 21 = .ok (.ireturn, 1) := by decide +kernel
theorem dX4_allows_0 : decode cX4_allows 0 = .ok (.iconst 0, 1) := by decide +kernel
theorem dX4_allows_1 : decode cX4_allows 1 = .ok (.istore_n 3, 1) := by decide +kernel
theorem dX4_allows_2 : decode cX4_allows 2 = .ok (.iload_n 3, 1) := by decide +kernel
theorem dX4_allows_3 : decode cX4_allows 3 = .ok (.aload_n 2, 1) := by decide +kernel
theorem dX4_allows_4 : decode cX4_allows 4 = .ok (.invokevirtual 47, 3) := by decide +kernel
theorem dX4_allows_7 : decode cX4_allows 7 = .ok (.if_icmp .ge 66, 3) := by decide +kernel
theorem dX4_allows_10 : decode cX4_allows 10 = .ok (.aload_n 2, 1) := by decide +kernel
theorem dX4_allows_11 : decode cX4_allows 11 = .ok (.iload_n 3, 1) := by decide +kernel
theorem dX4_allows_12 : decode cX4_allows 12 = .ok (.invokevirtual 52, 3) := by decide +kernel
theorem dX4_allows_15 : decode cX4_allows 15 = .ok (.istore 4, 2) := by decide +kernel
theorem dX4_allows_17 : decode cX4_allows 17 = .ok (.iload_n 3, 1) := by decide +kernel
theorem dX4_allows_18 : decode cX4_allows 18 = .ok (.ifCond .le 22, 3) := by decide +kernel
theorem dX4_allows_21 : decode cX4_allows 21 = .ok (.aload_n 0, 1) := by decide +kernel
theorem dX4_allows_22 : decode cX4_allows 22 = .ok (.aload_n 1, 1) := by decide +kernel
theorem dX4_allows_23 : decode cX4_allows 23 = .ok (.aload_n 2, 1) := by decide +kernel
theorem dX4_allows_24 : decode cX4_allows 24 = .ok (.iload_n 3, 1) := by decide +kernel
theorem dX4_allows_25 : decode cX4_allows 25 = .ok (.iconst 1, 1) := by decide +kernel
theorem dX4_allows_26 : decode cX4_allows 26 = .ok (.isub, 1) := by decide +kernel
theorem dX4_allows_27 : decode cX4_allows 27 = .ok (.invokevirtual 52, 3) := by decide +kernel
theorem dX4_allows_30 : decode cX4_allows 30 = .ok (.iload 4, 2) := by decide +kernel
theorem dX4_allows_32 : decode cX4_allows 32 = .ok (.invokevirtual 55, 3) := by decide +kernel
theorem dX4_allows_35 : decode cX4_allows 35 = .ok (.ifCond .ne 5, 3) := by decide +kernel
theorem dX4_allows_38 : decode cX4_allows 38 = .ok (.iconst 0, 1) := by decide +kernel
theorem dX4_allows_39 : decode cX4_allows 39 = .ok (.ireturn, 1) := by decide +kernel
theorem dX4_allows_40 : decode cX4_allows 40 = .ok (.aload_n 0, 1) := by decide +kernel
theorem dX4_allows_41 : decode cX4_allows 41 = .ok (.getfield 20, 3) := by decide +kernel
theorem dX4_allows_44 : decode cX4_allows 44 = .ok (.ifCond .eq 23, 3) := by decide +kernel
theorem dX4_allows_47 : decode cX4_allows 47 = .ok (.aload_n 1, 1) := by decide +kernel
theorem dX4_allows_48 : decode cX4_allows 48 = .ok (.iload 4, 2) := by decide +kernel
theorem dX4_allows_50 : decode cX4_allows 50 = .ok (.invokevirtual 59, 3) := by decide +kernel
theorem dX4_allows_53 : decode cX4_allows 53 = .ok (.ifCond .eq 14, 3) := by decide +kernel
theorem dX4_allows_56 : decode cX4_allows 56 = .ok (.aload_n 1, 1) := by decide +kernel
theorem dX4_allows_57 : decode cX4_allows 57 = .ok (.aload_n 2, 1) := by decide +kernel
theorem dX4_allows_58 : decode cX4_allows 58 = .ok (.iload_n 3, 1) := by decide +kernel
theorem dX4_allows_59 : decode cX4_allows 59 = .ok (.invokestatic 63, 3) := by decide +kernel
theorem dX4_allows_62 : decode cX4_allows 62 = .ok (.ifCond .ne 5, 3) := by decide +kernel
theorem dX4_allows_65 : decode cX4_allows 65 = .ok (.iconst 0, 1) := by decide +kernel
theorem dX4_allows_66 : decode cX4_allows 66 = .ok (.ireturn, 1) := by decide +kernel
theorem dX4_allows_67 : decode cX4_allows 67 = .ok (.iinc 3 1, 3) := by decide +kernel
theorem dX4_allows_70 : decode cX4_allows 70 = .ok (.goto (-68), 3) := by decide +kernel
theorem dX4_allows_73 : decode cX4_allows 73 = .ok (.iconst 1, 1) := by decide +kernel
theorem dX4_allows_74 : decode cX4_allows 74 = .ok (.ireturn, 1) := by decide +kernel
theorem dX4_hasTwinBeside_0 : decode cX4_hasTwinBeside 0 = .ok (.iload_n 2, 1) := by decide +kernel
theorem dX4_hasTwinBeside_1 : decode cX4_hasTwinBeside 1 = .ok (.ifCond .le 17, 3) := by decide +kernel
theorem dX4_hasTwinBeside_4 : decode cX4_hasTwinBeside 4 = .ok (.aload_n 0, 1) := by decide +kernel
theorem dX4_hasTwinBeside_5 : decode cX4_hasTwinBeside 5 = .ok (.aload_n 1, 1) := by decide +kernel
theorem dX4_hasTwinBeside_6 : decode cX4_hasTwinBeside 6 = .ok (.iload_n 2, 1) := by decide +kernel
theorem dX4_hasTwinBeside_7 : decode cX4_hasTwinBeside 7 = .ok (.iconst 1, 1) := by decide +kernel
theorem dX4_hasTwinBeside_8 : decode cX4_hasTwinBeside 8 = .ok (.isub, 1) := by decide +kernel
theorem dX4_hasTwinBeside_9 : decode cX4_hasTwinBeside 9 = .ok (.invokevirtual 52, 3) := by decide +kernel
theorem dX4_hasTwinBeside_12 : decode cX4_hasTwinBeside 12 = .ok (.invokevirtual 59, 3) := by decide +kernel
theorem dX4_hasTwinBeside_15 : decode cX4_hasTwinBeside 15 = .ok (.ifCond .ne 27, 3) := by decide +kernel
theorem dX4_hasTwinBeside_18 : decode cX4_hasTwinBeside 18 = .ok (.iload_n 2, 1) := by decide +kernel
theorem dX4_hasTwinBeside_19 : decode cX4_hasTwinBeside 19 = .ok (.iconst 1, 1) := by decide +kernel
theorem dX4_hasTwinBeside_20 : decode cX4_hasTwinBeside 20 = .ok (.iadd, 1) := by decide +kernel
theorem dX4_hasTwinBeside_21 : decode cX4_hasTwinBeside 21 = .ok (.aload_n 1, 1) := by decide +kernel
theorem dX4_hasTwinBeside_22 : decode cX4_hasTwinBeside 22 = .ok (.invokevirtual 47, 3) := by decide +kernel
theorem dX4_hasTwinBeside_25 : decode cX4_hasTwinBeside 25 = .ok (.if_icmp .ge 21, 3) := by decide +kernel
theorem dX4_hasTwinBeside_28 : decode cX4_hasTwinBeside 28 = .ok (.aload_n 0, 1) := by decide +kernel
theorem dX4_hasTwinBeside_29 : decode cX4_hasTwinBeside 29 = .ok (.aload_n 1, 1) := by decide +kernel
theorem dX4_hasTwinBeside_30 : decode cX4_hasTwinBeside 30 = .ok (.iload_n 2, 1) := by decide +kernel
theorem dX4_hasTwinBeside_31 : decode cX4_hasTwinBeside 31 = .ok (.iconst 1, 1) := by decide +kernel
theorem dX4_hasTwinBeside_32 : decode cX4_hasTwinBeside 32 = .ok (.iadd, 1) := by decide +kernel
theorem dX4_hasTwinBeside_33 : decode cX4_hasTwinBeside 33 = .ok (.invokevirtual 52, 3) := by decide +kernel
theorem dX4_hasTwinBeside_36 : decode cX4_hasTwinBeside 36 = .ok (.invokevirtual 59, 3) := by decide +kernel
theorem dX4_hasTwinBeside_39 : decode cX4_hasTwinBeside 39 = .ok (.ifCond .eq 7, 3) := by decide +kernel
theorem dX4_hasTwinBeside_42 : decode cX4_hasTwinBeside 42 = .ok (.iconst 1, 1) := by decide +kernel
theorem dX4_hasTwinBeside_43 : decode cX4_hasTwinBeside 43 = .ok (.goto 4, 3) := by decide +kernel
theorem dX4_hasTwinBeside_46 : decode cX4_hasTwinBeside 46 = .ok (.iconst 0, 1) := by decide +kernel
theorem dX4_hasTwinBeside_47 : decode cX4_hasTwinBeside 47 = .ok (.ireturn, 1) := by decide +kernel
theorem dX5_init_0 : decode cX5_init 0 = .ok (.aload_n 0, 1) := by decide +kernel
theorem dX5_init_1 : decode cX5_init 1 = .ok (.invokespecial 5, 3) := by decide +kernel
theorem dX5_init_4 : decode cX5_init 4 = .ok (.aload_n 0, 1) := by decide +kernel
theorem dX5_init_5 : decode cX5_init 5 = .ok (.sipush 2048, 3) := by decide +kernel
theorem dX5_init_8 : decode cX5_init 8 = .ok (.newarray .int, 2) := by decide +kernel
theorem dX5_init_10 : decode cX5_init 10 = .ok (.putfield 11, 3) := by decide +kernel
theorem dX5_init_13 : decode cX5_init 13 = .ok (.aload_n 0, 1) := by decide +kernel
theorem dX5_init_14 : decode cX5_init 14 = .ok (.sipush 2048, 3) := by decide +kernel
theorem dX5_init_17 : decode cX5_init 17 = .ok (.newarray .int, 2) := by decide +kernel
theorem dX5_init_19 : decode cX5_init 19 = .ok (.putfield 15, 3) := by decide +kernel
theorem dX5_init_22 : decode cX5_init 22 = .ok (.aload_n 0, 1) := by decide +kernel
theorem dX5_init_23 : decode cX5_init 23 = .ok (.bipush 49, 2) := by decide +kernel
theorem dX5_init_25 : decode cX5_init 25 = .ok (.newarray .int, 2) := by decide +kernel
theorem dX5_init_27 : decode cX5_init 27 = .ok (.putfield 18, 3) := by decide +kernel
theorem dX5_init_30 : decode cX5_init 30 = .ok (.aload_n 0, 1) := by decide +kernel
theorem dX5_init_31 : decode cX5_init 31 = .ok (.bipush 8, 2) := by decide +kernel
theorem dX5_init_33 : decode cX5_init 33 = .ok (.newarray .int, 2) := by decide +kernel
theorem dX5_init_35 : decode cX5_init 35 = .ok (.putfield 21, 3) := by decide +kernel
theorem dX5_init_38 : decode cX5_init 38 = .ok (.aload_n 0, 1) := by decide +kernel
theorem dX5_init_39 : decode cX5_init 39 = .ok (.new 24, 3) := by decide +kernel
theorem dX5_init_42 : decode cX5_init 42 = .ok (.dup, 1) := by decide +kernel
theorem dX5_init_43 : decode cX5_init 43 = .ok (.invokespecial 26, 3) := by decide +kernel
theorem dX5_init_46 : decode cX5_init 46 = .ok (.putfield 27, 3) := by decide +kernel
theorem dX5_init_49 : decode cX5_init 49 = .ok (.return_, 1) := by decide +kernel
theorem dX5_study_0 : decode cX5_study 0 = .ok (.aload_n 0, 1) := by decide +kernel
theorem dX5_study_1 : decode cX5_study 1 = .ok (.aload_n 1, 1) := by decide +kernel
theorem dX5_study_2 : decode cX5_study 2 = .ok (.invokevirtual 31, 3) := by decide +kernel
theorem dX5_study_5 : decode cX5_study 5 = .ok (.putfield 37, 3) := by decide +kernel
theorem dX5_study_8 : decode cX5_study 8 = .ok (.aload_n 0, 1) := by decide +kernel
theorem dX5_study_9 : decode cX5_study 9 = .ok (.aload_n 1, 1) := by decide +kernel
theorem dX5_study_10 : decode cX5_study 10 = .ok (.aload_n 2, 1) := by decide +kernel
theorem dX5_study_11 : decode cX5_study 11 = .ok (.invokevirtual 40, 3) := by decide +kernel
theorem dX5_study_14 : decode cX5_study 14 = .ok (.aload_n 0, 1) := by decide +kernel
theorem dX5_study_15 : decode cX5_study 15 = .ok (.aload_n 1, 1) := by decide +kernel
theorem dX5_study_16 : decode cX5_study 16 = .ok (.aload_n 2, 1) := by decide +kernel
theorem dX5_study_17 : decode cX5_study 17 = .ok (.invokevirtual 44, 3) := by decide +kernel
theorem dX5_study_20 : decode cX5_study 20 = .ok (.iconst 1, 1) := by decide +kernel
theorem dX5_study_21 : decode cX5_study 21 = .ok (.aload_n 0, 1) := by decide +kernel
theorem dX5_study_22 : decode cX5_study 22 = .ok (.getfield 37, 3) := by decide +kernel
theorem dX5_study_25 : decode cX5_study 25 = .ok (.ishl, 1) := by decide +kernel
theorem dX5_study_26 : decode cX5_study 26 = .ok (.iconst 1, 1) := by decide +kernel
theorem dX5_study_27 : decode cX5_study 27 = .ok (.isub, 1) := by decide +kernel
theorem dX5_study_28 : decode cX5_study 28 = .ok (.istore_n 3, 1) := by decide +kernel
theorem dX5_study_29 : decode cX5_study 29 = .ok (.iload_n 3, 1) := by decide +kernel
theorem dX5_study_30 : decode cX5_study 30 = .ok (.istore 4, 2) := by decide +kernel
theorem dX5_study_32 : decode cX5_study 32 = .ok (.iload 4, 2) := by decide +kernel
theorem dX5_study_34 : decode cX5_study 34 = .ok (.iconst 1, 1) := by decide +kernel
theorem dX5_study_35 : decode cX5_study 35 = .ok (.if_icmp .lt 82, 3) := by decide +kernel
theorem dX5_study_38 : decode cX5_study 38 = .ok (.iconst 0, 1) := by decide +kernel
theorem dX5_study_39 : decode cX5_study 39 = .ok (.istore 5, 2) := by decide +kernel
theorem dX5_study_41 : decode cX5_study 41 = .ok (.iload 5, 2) := by decide +kernel
theorem dX5_study_43 : decode cX5_study 43 = .ok (.aload_n 0, 1) := by decide +kernel
theorem dX5_study_44 : decode cX5_study 44 = .ok (.getfield 37, 3) := by decide +kernel
theorem dX5_study_47 : decode cX5_study 47 = .ok (.if_icmp .ge 64, 3) := by decide +kernel
theorem dX5_study_50 : decode cX5_study 50 = .ok (.iload 4, 2) := by decide +kernel
theorem dX5_study_52 : decode cX5_study 52 = .ok (.iload 5, 2) := by decide +kernel
theorem dX5_study_54 : decode cX5_study 54 = .ok (.invokestatic 47, 3) := by decide +kernel
theorem dX5_study_57 : decode cX5_study 57 = .ok (.ifCond .eq 23, 3) := by decide +kernel
theorem dX5_study_60 : decode cX5_study 60 = .ok (.aload_n 0, 1) := by decide +kernel
theorem dX5_study_61 : decode cX5_study 61 = .ok (.iload 4, 2) := by decide +kernel
theorem dX5_study_63 : decode cX5_study 63 = .ok (.iload 5, 2) := by decide +kernel
theorem dX5_study_65 : decode cX5_study 65 = .ok (.iconst 0, 1) := by decide +kernel
theorem dX5_study_66 : decode cX5_study 66 = .ok (.iload 4, 2) := by decide +kernel
theorem dX5_study_68 : decode cX5_study 68 = .ok (.iload_n 3, 1) := by decide +kernel
theorem dX5_study_69 : decode cX5_study 69 = .ok (.if_icmp .ne 7, 3) := by decide +kernel
theorem dX5_study_72 : decode cX5_study 72 = .ok (.iconst 1, 1) := by decide +kernel
theorem dX5_study_73 : decode cX5_study 73 = .ok (.goto 4, 3) := by decide +kernel
theorem dX5_study_76 : decode cX5_study 76 = .ok (.iconst 0, 1) := by decide +kernel
theorem dX5_study_77 : decode cX5_study 77 = .ok (.invokevirtual 51, 3) := by decide +kernel
theorem dX5_study_80 : decode cX5_study 80 = .ok (.iload 4, 2) := by decide +kernel
theorem dX5_study_82 : decode cX5_study 82 = .ok (.aload_n 0, 1) := by decide +kernel
theorem dX5_study_83 : decode cX5_study 83 = .ok (.getfield 55, 3) := by decide +kernel
theorem dX5_study_86 : decode cX5_study 86 = .ok (.iand, 1) := by decide +kernel
theorem dX5_study_87 : decode cX5_study 87 = .ok (.iload 5, 2) := by decide +kernel
theorem dX5_study_89 : decode cX5_study 89 = .ok (.invokestatic 47, 3) := by decide +kernel
theorem dX5_study_92 : decode cX5_study 92 = .ok (.ifCond .eq 13, 3) := by decide +kernel
theorem dX5_study_95 : decode cX5_study 95 = .ok (.aload_n 0, 1) := by decide +kernel
theorem dX5_study_96 : decode cX5_study 96 = .ok (.iload 4, 2) := by decide +kernel
theorem dX5_study_98 : decode cX5_study 98 = .ok (.iload 5, 2) := by decide +kernel
theorem dX5_study_100 : decode cX5_study 100 = .ok (.iconst 1, 1) := by decide +kernel
theorem dX5_study_101 : decode cX5_study 101 = .ok (.iconst 0, 1) := by decide +kernel
theorem dX5_study_102 : decode cX5_study 102 = .ok (.invokevirtual 51, 3) := by decide +kernel
theorem dX5_study_105 : decode cX5_study 105 = .ok (.iinc 5 1, 3) := by decide +kernel
theorem dX5_study_108 : decode cX5_study 108 = .ok (.goto (-67), 3) := by decide +kernel
theorem dX5_study_111 : decode cX5_study 111 = .ok (.iinc 4 (-1), 3) := by decide +kernel
theorem dX5_study_114 : decode cX5_study 114 = .ok (.goto (-82), 3) := by decide +kernel
theorem dX5_study_117 : decode cX5_study 117 = .ok (.aload_n 0, 1) := by decide +kernel
theorem dX5_study_118 : decode cX5_study 118 = .ok (.iconst 0, 1) := by decide +kernel
theorem dX5_study_119 : decode cX5_study 119 = .ok (.bipush 7, 2) := by decide +kernel
theorem dX5_study_121 : decode cX5_study 121 = .ok (.iconst 0, 1) := by decide +kernel
theorem dX5_study_122 : decode cX5_study 122 = .ok (.iconst 0, 1) := by decide +kernel
theorem dX5_study_123 : decode cX5_study 123 = .ok (.invokevirtual 51, 3) := by decide +kernel
theorem dX5_study_126 : decode cX5_study 126 = .ok (.return_, 1) := by decide +kernel
theorem dX5_ordersFound_0 : decode cX5_ordersFound 0 = .ok (.aload_n 0, 1) := by decide +kernel
theorem dX5_ordersFound_1 : decode cX5_ordersFound 1 = .ok (.getfield 11, 3) := by decide +kernel
theorem dX5_ordersFound_4 : decode cX5_ordersFound 4 = .ok (.bipush 14, 2) := by decide +kernel
theorem dX5_ordersFound_6 : decode cX5_ordersFound 6 = .ok (.iaload, 1) := by decide +kernel
theorem dX5_ordersFound_7 : decode cX5_ordersFound 7 = .ok (.ireturn, 1) := by decide +kernel
theorem dX5_leastWorst_0 : decode cX5_leastWorst 0 = .ok (.aload_n 0, 1) := by decide +kernel
theorem dX5_leastWorst_1 : decode cX5_leastWorst 1 = .ok (.getfield 15, 3) := by decide +kernel
theorem dX5_leastWorst_4 : decode cX5_leastWorst 4 = .ok (.bipush 14, 2) := by decide +kernel
theorem dX5_leastWorst_6 : decode cX5_leastWorst 6 = .ok (.iaload, 1) := by decide +kernel
theorem dX5_leastWorst_7 : decode cX5_leastWorst 7 = .ok (.ireturn, 1) := by decide +kernel
theorem dX5_bestOrder_0 : decode cX5_bestOrder 0 = .ok (.aload_n 0, 1) := by decide +kernel
theorem dX5_bestOrder_1 : decode cX5_bestOrder 1 = .ok (.getfield 27, 3) := by decide +kernel
theorem dX5_bestOrder_4 : decode cX5_bestOrder 4 = .ok (.invokevirtual 58, 3) := by decide +kernel
theorem dX5_bestOrder_7 : decode cX5_bestOrder 7 = .ok (.iconst 0, 1) := by decide +kernel
theorem dX5_bestOrder_8 : decode cX5_bestOrder 8 = .ok (.istore_n 1, 1) := by decide +kernel
theorem dX5_bestOrder_9 : decode cX5_bestOrder 9 = .ok (.bipush 7, 2) := by decide +kernel
theorem dX5_bestOrder_11 : decode cX5_bestOrder 11 = .ok (.istore_n 2, 1) := by decide +kernel
theorem dX5_bestOrder_12 : decode cX5_bestOrder 12 = .ok (.iconst 0, 1) := by decide +kernel
theorem dX5_bestOrder_13 : decode cX5_bestOrder 13 = .ok (.istore_n 3, 1) := by decide +kernel
theorem dX5_bestOrder_14 : decode cX5_bestOrder 14 = .ok (.iconst 0, 1) := by decide +kernel
theorem dX5_bestOrder_15 : decode cX5_bestOrder 15 = .ok (.istore 4, 2) := by decide +kernel
theorem dX5_bestOrder_17 : decode cX5_bestOrder 17 = .ok (.iload 4, 2) := by decide +kernel
theorem dX5_bestOrder_19 : decode cX5_bestOrder 19 = .ok (.aload_n 0, 1) := by decide +kernel
theorem dX5_bestOrder_20 : decode cX5_bestOrder 20 = .ok (.getfield 37, 3) := by decide +kernel
theorem dX5_bestOrder_23 : decode cX5_bestOrder 23 = .ok (.if_icmp .ge 49, 3) := by decide +kernel
theorem dX5_bestOrder_26 : decode cX5_bestOrder 26 = .ok (.aload_n 0, 1) := by decide +kernel
theorem dX5_bestOrder_27 : decode cX5_bestOrder 27 = .ok (.aload_n 0, 1) := by decide +kernel
theorem dX5_bestOrder_28 : decode cX5_bestOrder 28 = .ok (.invokevirtual 61, 3) := by decide +kernel
theorem dX5_bestOrder_31 : decode cX5_bestOrder 31 = .ok (.iload_n 1, 1) := by decide +kernel
theorem dX5_bestOrder_32 : decode cX5_bestOrder 32 = .ok (.iload_n 2, 1) := by decide +kernel
theorem dX5_bestOrder_33 : decode cX5_bestOrder 33 = .ok (.iload_n 3, 1) := by decide +kernel
theorem dX5_bestOrder_34 : decode cX5_bestOrder 34 = .ok (.invokevirtual 64, 3) := by decide +kernel
theorem dX5_bestOrder_37 : decode cX5_bestOrder 37 = .ok (.istore 5, 2) := by decide +kernel
theorem dX5_bestOrder_39 : decode cX5_bestOrder 39 = .ok (.aload_n 0, 1) := by decide +kernel
theorem dX5_bestOrder_40 : decode cX5_bestOrder 40 = .ok (.iload_n 2, 1) := by decide +kernel
theorem dX5_bestOrder_41 : decode cX5_bestOrder 41 = .ok (.iload 5, 2) := by decide +kernel
theorem dX5_bestOrder_43 : decode cX5_bestOrder 43 = .ok (.invokevirtual 68, 3) := by decide +kernel
theorem dX5_bestOrder_46 : decode cX5_bestOrder 46 = .ok (.istore_n 3, 1) := by decide +kernel
theorem dX5_bestOrder_47 : decode cX5_bestOrder 47 = .ok (.iload_n 1, 1) := by decide +kernel
theorem dX5_bestOrder_48 : decode cX5_bestOrder 48 = .ok (.iconst 1, 1) := by decide +kernel
theorem dX5_bestOrder_49 : decode cX5_bestOrder 49 = .ok (.iload 5, 2) := by decide +kernel
theorem dX5_bestOrder_51 : decode cX5_bestOrder 51 = .ok (.ishl, 1) := by decide +kernel
theorem dX5_bestOrder_52 : decode cX5_bestOrder 52 = .ok (.ior, 1) := by decide +kernel
theorem dX5_bestOrder_53 : decode cX5_bestOrder 53 = .ok (.istore_n 1, 1) := by decide +kernel
theorem dX5_bestOrder_54 : decode cX5_bestOrder 54 = .ok (.iload 5, 2) := by decide +kernel
theorem dX5_bestOrder_56 : decode cX5_bestOrder 56 = .ok (.istore_n 2, 1) := by decide +kernel
theorem dX5_bestOrder_57 : decode cX5_bestOrder 57 = .ok (.aload_n 0, 1) := by decide +kernel
theorem dX5_bestOrder_58 : decode cX5_bestOrder 58 = .ok (.getfield 27, 3) := by decide +kernel
theorem dX5_bestOrder_61 : decode cX5_bestOrder 61 = .ok (.iload 5, 2) := by decide +kernel
theorem dX5_bestOrder_63 : decode cX5_bestOrder 63 = .ok (.invokevirtual 72, 3) := by decide +kernel
theorem dX5_bestOrder_66 : decode cX5_bestOrder 66 = .ok (.iinc 4 1, 3) := by decide +kernel
theorem dX5_bestOrder_69 : decode cX5_bestOrder 69 = .ok (.goto (-52), 3) := by decide +kernel
theorem dX5_bestOrder_72 : decode cX5_bestOrder 72 = .ok (.aload_n 0, 1) := by decide +kernel
theorem dX5_bestOrder_73 : decode cX5_bestOrder 73 = .ok (.getfield 27, 3) := by decide +kernel
theorem dX5_bestOrder_76 : decode cX5_bestOrder 76 = .ok (.areturn, 1) := by decide +kernel
theorem dX5_firstToward_0 : decode cX5_firstToward 0 = .ok (.iload_n 2, 1) := by decide +kernel
theorem dX5_firstToward_1 : decode cX5_firstToward 1 = .ok (.invokestatic 76, 3) := by decide +kernel
theorem dX5_firstToward_4 : decode cX5_firstToward 4 = .ok (.istore 5, 2) := by decide +kernel
theorem dX5_firstToward_6 : decode cX5_firstToward 6 = .ok (.aload_n 0, 1) := by decide +kernel
theorem dX5_firstToward_7 : decode cX5_firstToward 7 = .ok (.iload_n 2, 1) := by decide +kernel
theorem dX5_firstToward_8 : decode cX5_firstToward 8 = .ok (.iload_n 3, 1) := by decide +kernel
theorem dX5_firstToward_9 : decode cX5_firstToward 9 = .ok (.iload 4, 2) := by decide +kernel
theorem dX5_firstToward_11 : decode cX5_firstToward 11 = .ok (.invokevirtual 82, 3) := by decide +kernel
theorem dX5_firstToward_14 : decode cX5_firstToward 14 = .ok (.istore 6, 2) := by decide +kernel
theorem dX5_firstToward_16 : decode cX5_firstToward 16 = .ok (.iconst 0, 1) := by decide +kernel
theorem dX5_firstToward_17 : decode cX5_firstToward 17 = .ok (.istore 7, 2) := by decide +kernel
theorem dX5_firstToward_19 : decode cX5_firstToward 19 = .ok (.iload 7, 2) := by decide +kernel
theorem dX5_firstToward_21 : decode cX5_firstToward 21 = .ok (.aload_n 0, 1) := by decide +kernel
theorem dX5_firstToward_22 : decode cX5_firstToward 22 = .ok (.getfield 37, 3) := by decide +kernel
theorem dX5_firstToward_25 : decode cX5_firstToward 25 = .ok (.if_icmp .ge 56, 3) := by decide +kernel
theorem dX5_firstToward_28 : decode cX5_firstToward 28 = .ok (.iload 6, 2) := by decide +kernel
theorem dX5_firstToward_30 : decode cX5_firstToward 30 = .ok (.iload 7, 2) := by decide +kernel
theorem dX5_firstToward_32 : decode cX5_firstToward 32 = .ok (.invokestatic 47, 3) := by decide +kernel
theorem dX5_firstToward_35 : decode cX5_firstToward 35 = .ok (.ifCond .eq 40, 3) := by decide +kernel
theorem dX5_firstToward_38 : decode cX5_firstToward 38 = .ok (.aload_n 0, 1) := by decide +kernel
theorem dX5_firstToward_39 : decode cX5_firstToward 39 = .ok (.getfield 18, 3) := by decide +kernel
theorem dX5_firstToward_42 : decode cX5_firstToward 42 = .ok (.iload 7, 2) := by decide +kernel
theorem dX5_firstToward_44 : decode cX5_firstToward 44 = .ok (.bipush 7, 2) := by decide +kernel
theorem dX5_firstToward_46 : decode cX5_firstToward 46 = .ok (.imul, 1) := by decide +kernel
theorem dX5_firstToward_47 : decode cX5_firstToward 47 = .ok (.iload 5, 2) := by decide +kernel
theorem dX5_firstToward_49 : decode cX5_firstToward 49 = .ok (.iadd, 1) := by decide +kernel
theorem dX5_firstToward_50 : decode cX5_firstToward 50 = .ok (.iaload, 1) := by decide +kernel
theorem dX5_firstToward_51 : decode cX5_firstToward 51 = .ok (.iload_n 1, 1) := by decide +kernel
theorem dX5_firstToward_52 : decode cX5_firstToward 52 = .ok (.if_icmp .gt 23, 3) := by decide +kernel
theorem dX5_firstToward_55 : decode cX5_firstToward 55 = .ok (.aload_n 0, 1) := by decide +kernel
theorem dX5_firstToward_56 : decode cX5_firstToward 56 = .ok (.getfield 15, 3) := by decide +kernel
theorem dX5_firstToward_59 : decode cX5_firstToward 59 = .ok (.aload_n 0, 1) := by decide +kernel
theorem dX5_firstToward_60 : decode cX5_firstToward 60 = .ok (.iload_n 2, 1) := by decide +kernel
theorem dX5_firstToward_61 : decode cX5_firstToward 61 = .ok (.iload_n 3, 1) := by decide +kernel
theorem dX5_firstToward_62 : decode cX5_firstToward 62 = .ok (.iload 7, 2) := by decide +kernel
theorem dX5_firstToward_64 : decode cX5_firstToward 64 = .ok (.invokevirtual 86, 3) := by decide +kernel
theorem dX5_firstToward_67 : decode cX5_firstToward 67 = .ok (.iaload, 1) := by decide +kernel
theorem dX5_firstToward_68 : decode cX5_firstToward 68 = .ok (.iload_n 1, 1) := by decide +kernel
theorem dX5_firstToward_69 : decode cX5_firstToward 69 = .ok (.if_icmp .gt 6, 3) := by decide +kernel
theorem dX5_firstToward_72 : decode cX5_firstToward 72 = .ok (.iload 7, 2) := by decide +kernel
theorem dX5_firstToward_74 : decode cX5_firstToward 74 = .ok (.ireturn, 1) := by decide +kernel
theorem dX5_firstToward_75 : decode cX5_firstToward 75 = .ok (.iinc 7 1, 3) := by decide +kernel
theorem dX5_firstToward_78 : decode cX5_firstToward 78 = .ok (.goto (-59), 3) := by decide +kernel
theorem dX5_firstToward_81 : decode cX5_firstToward 81 = .ok (.iconst 0, 1) := by decide +kernel
theorem dX5_firstToward_82 : decode cX5_firstToward 82 = .ok (.ireturn, 1) := by decide +kernel
theorem dX5_noteWear_0 : decode cX5_noteWear 0 = .ok (.iconst 0, 1) := by decide +kernel
theorem dX5_noteWear_1 : decode cX5_noteWear 1 = .ok (.istore_n 3, 1) := by decide +kernel
theorem dX5_noteWear_2 : decode cX5_noteWear 2 = .ok (.iload_n 3, 1) := by decide +kernel
theorem dX5_noteWear_3 : decode cX5_noteWear 3 = .ok (.aload_n 0, 1) := by decide +kernel
theorem dX5_noteWear_4 : decode cX5_noteWear 4 = .ok (.getfield 37, 3) := by decide +kernel
theorem dX5_noteWear_7 : decode cX5_noteWear 7 = .ok (.if_icmp .ge 50, 3) := by decide +kernel
theorem dX5_noteWear_10 : decode cX5_noteWear 10 = .ok (.iconst 0, 1) := by decide +kernel
theorem dX5_noteWear_11 : decode cX5_noteWear 11 = .ok (.istore 4, 2) := by decide +kernel
theorem dX5_noteWear_13 : decode cX5_noteWear 13 = .ok (.iload 4, 2) := by decide +kernel
theorem dX5_noteWear_15 : decode cX5_noteWear 15 = .ok (.aload_n 0, 1) := by decide +kernel
theorem dX5_noteWear_16 : decode cX5_noteWear 16 = .ok (.getfield 37, 3) := by decide +kernel
theorem dX5_noteWear_19 : decode cX5_noteWear 19 = .ok (.if_icmp .ge 32, 3) := by decide +kernel
theorem dX5_noteWear_22 : decode cX5_noteWear 22 = .ok (.aload_n 0, 1) := by decide +kernel
theorem dX5_noteWear_23 : decode cX5_noteWear 23 = .ok (.getfield 18, 3) := by decide +kernel
theorem dX5_noteWear_26 : decode cX5_noteWear 26 = .ok (.iload_n 3, 1) := by decide +kernel
theorem dX5_noteWear_27 : decode cX5_noteWear 27 = .ok (.bipush 7, 2) := by decide +kernel
theorem dX5_noteWear_29 : decode cX5_noteWear 29 = .ok (.imul, 1) := by decide +kernel
theorem dX5_noteWear_30 : decode cX5_noteWear 30 = .ok (.iload 4, 2) := by decide +kernel
theorem dX5_noteWear_32 : decode cX5_noteWear 32 = .ok (.iadd, 1) := by decide +kernel
theorem dX5_noteWear_33 : decode cX5_noteWear 33 = .ok (.aload_n 1, 1) := by decide +kernel
theorem dX5_noteWear_34 : decode cX5_noteWear 34 = .ok (.iload_n 3, 1) := by decide +kernel
theorem dX5_noteWear_35 : decode cX5_noteWear 35 = .ok (.iload 4, 2) := by decide +kernel
theorem dX5_noteWear_37 : decode cX5_noteWear 37 = .ok (.aload_n 2, 1) := by decide +kernel
theorem dX5_noteWear_38 : decode cX5_noteWear 38 = .ok (.invokevirtual 89, 3) := by decide +kernel
theorem dX5_noteWear_41 : decode cX5_noteWear 41 = .ok (.invokevirtual 95, 3) := by decide +kernel
theorem dX5_noteWear_44 : decode cX5_noteWear 44 = .ok (.iastore, 1) := by decide +kernel
theorem dX5_noteWear_45 : decode cX5_noteWear 45 = .ok (.iinc 4 1, 3) := by decide +kernel
theorem dX5_noteWear_48 : decode cX5_noteWear 48 = .ok (.goto (-35), 3) := by decide +kernel
theorem dX5_noteWear_51 : decode cX5_noteWear 51 = .ok (.iinc 3 1, 3) := by decide +kernel
theorem dX5_noteWear_54 : decode cX5_noteWear 54 = .ok (.goto (-52), 3) := by decide +kernel
theorem dX5_noteWear_57 : decode cX5_noteWear 57 = .ok (.return_, 1) := by decide +kernel
theorem dX5_noteNeighbours_0 : decode cX5_noteNeighbours 0 = .ok (.aload_n 0, 1) := by decide +kernel
theorem dX5_noteNeighbours_1 : decode cX5_noteNeighbours 1 = .ok (.iconst 0, 1) := by decide +kernel
theorem dX5_noteNeighbours_2 : decode cX5_noteNeighbours 2 = .ok (.putfield 55, 3) := by decide +kernel
theorem dX5_noteNeighbours_5 : decode cX5_noteNeighbours 5 = .ok (.iconst 0, 1) := by decide +kernel
theorem dX5_noteNeighbours_6 : decode cX5_noteNeighbours 6 = .ok (.istore_n 3, 1) := by decide +kernel
theorem dX5_noteNeighbours_7 : decode cX5_noteNeighbours 7 = .ok (.iload_n 3, 1) := by decide +kernel
theorem dX5_noteNeighbours_8 : decode cX5_noteNeighbours 8 = .ok (.aload_n 0, 1) := by decide +kernel
theorem dX5_noteNeighbours_9 : decode cX5_noteNeighbours 9 = .ok (.getfield 37, 3) := by decide +kernel
theorem dX5_noteNeighbours_12 : decode cX5_noteNeighbours 12 = .ok (.if_icmp .ge 85, 3) := by decide +kernel
theorem dX5_noteNeighbours_15 : decode cX5_noteNeighbours 15 = .ok (.aload_n 2, 1) := by decide +kernel
theorem dX5_noteNeighbours_16 : decode cX5_noteNeighbours 16 = .ok (.invokevirtual 99, 3) := by decide +kernel
theorem dX5_noteNeighbours_19 : decode cX5_noteNeighbours 19 = .ok (.ifCond .eq 23, 3) := by decide +kernel
theorem dX5_noteNeighbours_22 : decode cX5_noteNeighbours 22 = .ok (.aload_n 1, 1) := by decide +kernel
theorem dX5_noteNeighbours_23 : decode cX5_noteNeighbours 23 = .ok (.iload_n 3, 1) := by decide +kernel
theorem dX5_noteNeighbours_24 : decode cX5_noteNeighbours 24 = .ok (.invokevirtual 102, 3) := by decide +kernel
theorem dX5_noteNeighbours_27 : decode cX5_noteNeighbours 27 = .ok (.ifCond .eq 15, 3) := by decide +kernel
theorem dX5_noteNeighbours_30 : decode cX5_noteNeighbours 30 = .ok (.aload_n 0, 1) := by decide +kernel
theorem dX5_noteNeighbours_31 : decode cX5_noteNeighbours 31 = .ok (.dup, 1) := by decide +kernel
theorem dX5_noteNeighbours_32 : decode cX5_noteNeighbours 32 = .ok (.getfield 55, 3) := by decide +kernel
theorem dX5_noteNeighbours_35 : decode cX5_noteNeighbours 35 = .ok (.iconst 1, 1) := by decide +kernel
theorem dX5_noteNeighbours_36 : decode cX5_noteNeighbours 36 = .ok (.iload_n 3, 1) := by decide +kernel
theorem dX5_noteNeighbours_37 : decode cX5_noteNeighbours 37 = .ok (.ishl, 1) := by decide +kernel
theorem dX5_noteNeighbours_38 : decode cX5_noteNeighbours 38 = .ok (.ior, 1) := by decide +kernel
theorem dX5_noteNeighbours_39 : decode cX5_noteNeighbours 39 = .ok (.putfield 55, 3) := by decide +kernel
theorem dX5_noteNeighbours_42 : decode cX5_noteNeighbours 42 = .ok (.aload_n 0, 1) := by decide +kernel
theorem dX5_noteNeighbours_43 : decode cX5_noteNeighbours 43 = .ok (.getfield 21, 3) := by decide +kernel
theorem dX5_noteNeighbours_46 : decode cX5_noteNeighbours 46 = .ok (.iload_n 3, 1) := by decide +kernel
theorem dX5_noteNeighbours_47 : decode cX5_noteNeighbours 47 = .ok (.iconst 0, 1) := by decide +kernel
theorem dX5_noteNeighbours_48 : decode cX5_noteNeighbours 48 = .ok (.iastore, 1) := by decide +kernel
theorem dX5_noteNeighbours_49 : decode cX5_noteNeighbours 49 = .ok (.iconst 0, 1) := by decide +kernel
theorem dX5_noteNeighbours_50 : decode cX5_noteNeighbours 50 = .ok (.istore 4, 2) := by decide +kernel
theorem dX5_noteNeighbours_52 : decode cX5_noteNeighbours 52 = .ok (.iload 4, 2) := by decide +kernel
theorem dX5_noteNeighbours_54 : decode cX5_noteNeighbours 54 = .ok (.aload_n 0, 1) := by decide +kernel
theorem dX5_noteNeighbours_55 : decode cX5_noteNeighbours 55 = .ok (.getfield 37, 3) := by decide +kernel
theorem dX5_noteNeighbours_58 : decode cX5_noteNeighbours 58 = .ok (.if_icmp .ge 33, 3) := by decide +kernel
theorem dX5_noteNeighbours_61 : decode cX5_noteNeighbours 61 = .ok (.aload_n 2, 1) := by decide +kernel
theorem dX5_noteNeighbours_62 : decode cX5_noteNeighbours 62 = .ok (.aload_n 1, 1) := by decide +kernel
theorem dX5_noteNeighbours_63 : decode cX5_noteNeighbours 63 = .ok (.iload_n 3, 1) := by decide +kernel
theorem dX5_noteNeighbours_64 : decode cX5_noteNeighbours 64 = .ok (.iload 4, 2) := by decide +kernel
theorem dX5_noteNeighbours_66 : decode cX5_noteNeighbours 66 = .ok (.invokevirtual 106, 3) := by decide +kernel
theorem dX5_noteNeighbours_69 : decode cX5_noteNeighbours 69 = .ok (.ifCond .eq 16, 3) := by decide +kernel
theorem dX5_noteNeighbours_72 : decode cX5_noteNeighbours 72 = .ok (.aload_n 0, 1) := by decide +kernel
theorem dX5_noteNeighbours_73 : decode cX5_noteNeighbours 73 = .ok (.getfield 21, 3) := by decide +kernel
theorem dX5_noteNeighbours_76 : decode cX5_noteNeighbours 76 = .ok (.iload_n 3, 1) := by decide +kernel
theorem dX5_noteNeighbours_77 : decode cX5_noteNeighbours 77 = .ok (.dup2, 1) := by decide +kernel
theorem dX5_noteNeighbours_78 : decode cX5_noteNeighbours 78 = .ok (.iaload, 1) := by decide +kernel
theorem dX5_noteNeighbours_79 : decode cX5_noteNeighbours 79 = .ok (.iconst 1, 1) := by decide +kernel
theorem dX5_noteNeighbours_80 : decode cX5_noteNeighbours 80 = .ok (.iload 4, 2) := by decide +kernel
theorem dX5_noteNeighbours_82 : decode cX5_noteNeighbours 82 = .ok (.ishl, 1) := by decide +kernel
theorem dX5_noteNeighbours_83 : decode cX5_noteNeighbours 83 = .ok (.ior, 1) := by decide +kernel
theorem dX5_noteNeighbours_84 : decode cX5_noteNeighbours 84 = .ok (.iastore, 1) := by decide +kernel
theorem dX5_noteNeighbours_85 : decode cX5_noteNeighbours 85 = .ok (.iinc 4 1, 3) := by decide +kernel
theorem dX5_noteNeighbours_88 : decode cX5_noteNeighbours 88 = .ok (.goto (-36), 3) := by decide +kernel
theorem dX5_noteNeighbours_91 : decode cX5_noteNeighbours 91 = .ok (.iinc 3 1, 3) := by decide +kernel
theorem dX5_noteNeighbours_94 : decode cX5_noteNeighbours 94 = .ok (.goto (-87), 3) := by decide +kernel
theorem dX5_noteNeighbours_97 : decode cX5_noteNeighbours 97 = .ok (.aload_n 0, 1) := by decide +kernel
theorem dX5_noteNeighbours_98 : decode cX5_noteNeighbours 98 = .ok (.getfield 21, 3) := by decide +kernel
theorem dX5_noteNeighbours_101 : decode cX5_noteNeighbours 101 = .ok (.bipush 7, 2) := by decide +kernel
theorem dX5_noteNeighbours_103 : decode cX5_noteNeighbours 103 = .ok (.iconst 1, 1) := by decide +kernel
theorem dX5_noteNeighbours_104 : decode cX5_noteNeighbours 104 = .ok (.aload_n 0, 1) := by decide +kernel
theorem dX5_noteNeighbours_105 : decode cX5_noteNeighbours 105 = .ok (.getfield 37, 3) := by decide +kernel
theorem dX5_noteNeighbours_108 : decode cX5_noteNeighbours 108 = .ok (.ishl, 1) := by decide +kernel
theorem dX5_noteNeighbours_109 : decode cX5_noteNeighbours 109 = .ok (.iconst 1, 1) := by decide +kernel
theorem dX5_noteNeighbours_110 : decode cX5_noteNeighbours 110 = .ok (.isub, 1) := by decide +kernel
theorem dX5_noteNeighbours_111 : decode cX5_noteNeighbours 111 = .ok (.iastore, 1) := by decide +kernel
theorem dX5_noteNeighbours_112 : decode cX5_noteNeighbours 112 = .ok (.return_, 1) := by decide +kernel
theorem dX5_settle_0 : decode cX5_settle 0 = .ok (.iload 4, 2) := by decide +kernel
theorem dX5_settle_2 : decode cX5_settle 2 = .ok (.ifCond .eq 7, 3) := by decide +kernel
theorem dX5_settle_5 : decode cX5_settle 5 = .ok (.iconst 1, 1) := by decide +kernel
theorem dX5_settle_6 : decode cX5_settle 6 = .ok (.goto 4, 3) := by decide +kernel
theorem dX5_settle_9 : decode cX5_settle 9 = .ok (.iconst 0, 1) := by decide +kernel
theorem dX5_settle_10 : decode cX5_settle 10 = .ok (.istore 5, 2) := by decide +kernel
theorem dX5_settle_12 : decode cX5_settle 12 = .ok (.iload 4, 2) := by decide +kernel
theorem dX5_settle_14 : decode cX5_settle 14 = .ok (.ifCond .eq 7, 3) := by decide +kernel
theorem dX5_settle_17 : decode cX5_settle 17 = .ok (.iconst 0, 1) := by decide +kernel
theorem dX5_settle_18 : decode cX5_settle 18 = .ok (.goto 6, 3) := by decide +kernel
