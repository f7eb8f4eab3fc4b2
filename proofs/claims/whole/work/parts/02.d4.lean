theorem dX10_worstOf_15 : decode cX10_worstOf 15 = .ok (.iload_n 2, 1) := by decide +kernel
theorem dX10_worstOf_16 : decode cX10_worstOf 16 = .ok (.if_icmp .le 9, 3) := by decide +kernel
theorem dX10_worstOf_19 : decode cX10_worstOf 19 = .ok (.aload_n 1, 1) := by decide +kernel
theorem dX10_worstOf_20 : decode cX10_worstOf 20 = .ok (.iload_n 3, 1) := by decide +kernel
theorem dX10_worstOf_21 : decode cX10_worstOf 21 = .ok (.iaload, 1) := by decide +kernel
theorem dX10_worstOf_22 : decode cX10_worstOf 22 = .ok (.goto 4, 3) := by decide +kernel
theorem dX10_worstOf_25 : decode cX10_worstOf 25 = .ok (.iload_n 2, 1) := by decide +kernel
theorem dX10_worstOf_26 : decode cX10_worstOf 26 = .ok (.istore_n 2, 1) := by decide +kernel
theorem dX10_worstOf_27 : decode cX10_worstOf 27 = .ok (.iinc 3 1, 3) := by decide +kernel
theorem dX10_worstOf_30 : decode cX10_worstOf 30 = .ok (.goto (-26), 3) := by decide +kernel
theorem dX10_worstOf_33 : decode cX10_worstOf 33 = .ok (.iload_n 2, 1) := by decide +kernel
theorem dX10_worstOf_34 : decode cX10_worstOf 34 = .ok (.ireturn, 1) := by decide +kernel
theorem dX10_yearOn_0 : decode cX10_yearOn 0 = .ok (.iconst 0, 1) := by decide +kernel
theorem dX10_yearOn_1 : decode cX10_yearOn 1 = .ok (.istore_n 3, 1) := by decide +kernel
theorem dX10_yearOn_2 : decode cX10_yearOn 2 = .ok (.iload_n 3, 1) := by decide +kernel
theorem dX10_yearOn_3 : decode cX10_yearOn 3 = .ok (.aload_n 0, 1) := by decide +kernel
theorem dX10_yearOn_4 : decode cX10_yearOn 4 = .ok (.getfield 105, 3) := by decide +kernel
theorem dX10_yearOn_7 : decode cX10_yearOn 7 = .ok (.if_icmp .ge 32, 3) := by decide +kernel
theorem dX10_yearOn_10 : decode cX10_yearOn 10 = .ok (.aload_n 1, 1) := by decide +kernel
theorem dX10_yearOn_11 : decode cX10_yearOn 11 = .ok (.iload_n 3, 1) := by decide +kernel
theorem dX10_yearOn_12 : decode cX10_yearOn 12 = .ok (.aload_n 0, 1) := by decide +kernel
theorem dX10_yearOn_13 : decode cX10_yearOn 13 = .ok (.getfield 13, 3) := by decide +kernel
theorem dX10_yearOn_16 : decode cX10_yearOn 16 = .ok (.iload_n 3, 1) := by decide +kernel
theorem dX10_yearOn_17 : decode cX10_yearOn 17 = .ok (.iaload, 1) := by decide +kernel
theorem dX10_yearOn_18 : decode cX10_yearOn 18 = .ok (.aload_n 1, 1) := by decide +kernel
theorem dX10_yearOn_19 : decode cX10_yearOn 19 = .ok (.iload_n 3, 1) := by decide +kernel
theorem dX10_yearOn_20 : decode cX10_yearOn 20 = .ok (.iaload, 1) := by decide +kernel
theorem dX10_yearOn_21 : decode cX10_yearOn 21 = .ok (.aload_n 0, 1) := by decide +kernel
theorem dX10_yearOn_22 : decode cX10_yearOn 22 = .ok (.getfield 28, 3) := by decide +kernel
theorem dX10_yearOn_25 : decode cX10_yearOn 25 = .ok (.aload_n 2, 1) := by decide +kernel
theorem dX10_yearOn_26 : decode cX10_yearOn 26 = .ok (.iload_n 3, 1) := by decide +kernel
theorem dX10_yearOn_27 : decode cX10_yearOn 27 = .ok (.iaload, 1) := by decide +kernel
theorem dX10_yearOn_28 : decode cX10_yearOn 28 = .ok (.iaload, 1) := by decide +kernel
theorem dX10_yearOn_29 : decode cX10_yearOn 29 = .ok (.invokestatic 133, 3) := by decide +kernel
theorem dX10_yearOn_32 : decode cX10_yearOn 32 = .ok (.iastore, 1) := by decide +kernel
theorem dX10_yearOn_33 : decode cX10_yearOn 33 = .ok (.iinc 3 1, 3) := by decide +kernel
theorem dX10_yearOn_36 : decode cX10_yearOn 36 = .ok (.goto (-34), 3) := by decide +kernel
theorem dX10_yearOn_39 : decode cX10_yearOn 39 = .ok (.return_, 1) := by decide +kernel
theorem dX10_layOn_0 : decode cX10_layOn 0 = .ok (.iconst 0, 1) := by decide +kernel
theorem dX10_layOn_1 : decode cX10_layOn 1 = .ok (.istore 4, 2) := by decide +kernel
theorem dX10_layOn_3 : decode cX10_layOn 3 = .ok (.iload 4, 2) := by decide +kernel
theorem dX10_layOn_5 : decode cX10_layOn 5 = .ok (.aload_n 0, 1) := by decide +kernel
theorem dX10_layOn_6 : decode cX10_layOn 6 = .ok (.getfield 105, 3) := by decide +kernel
theorem dX10_layOn_9 : decode cX10_layOn 9 = .ok (.if_icmp .ge 50, 3) := by decide +kernel
theorem dX10_layOn_12 : decode cX10_layOn 12 = .ok (.aload_n 0, 1) := by decide +kernel
theorem dX10_layOn_13 : decode cX10_layOn 13 = .ok (.getfield 31, 3) := by decide +kernel
theorem dX10_layOn_16 : decode cX10_layOn 16 = .ok (.iload 4, 2) := by decide +kernel
theorem dX10_layOn_18 : decode cX10_layOn 18 = .ok (.iaload, 1) := by decide +kernel
theorem dX10_layOn_19 : decode cX10_layOn 19 = .ok (.istore 5, 2) := by decide +kernel
theorem dX10_layOn_21 : decode cX10_layOn 21 = .ok (.aload_n 3, 1) := by decide +kernel
theorem dX10_layOn_22 : decode cX10_layOn 22 = .ok (.iload 5, 2) := by decide +kernel
theorem dX10_layOn_24 : decode cX10_layOn 24 = .ok (.iload 4, 2) := by decide +kernel
theorem dX10_layOn_26 : decode cX10_layOn 26 = .ok (.iastore, 1) := by decide +kernel
theorem dX10_layOn_27 : decode cX10_layOn 27 = .ok (.aload_n 0, 1) := by decide +kernel
theorem dX10_layOn_28 : decode cX10_layOn 28 = .ok (.getfield 92, 3) := by decide +kernel
theorem dX10_layOn_31 : decode cX10_layOn 31 = .ok (.iconst 1, 1) := by decide +kernel
theorem dX10_layOn_32 : decode cX10_layOn 32 = .ok (.if_icmp .ne 21, 3) := by decide +kernel
theorem dX10_layOn_35 : decode cX10_layOn 35 = .ok (.aload_n 0, 1) := by decide +kernel
theorem dX10_layOn_36 : decode cX10_layOn 36 = .ok (.getfield 13, 3) := by decide +kernel
theorem dX10_layOn_39 : decode cX10_layOn 39 = .ok (.iload 5, 2) := by decide +kernel
theorem dX10_layOn_41 : decode cX10_layOn 41 = .ok (.iaload, 1) := by decide +kernel
theorem dX10_layOn_42 : decode cX10_layOn 42 = .ok (.iconst 4, 1) := by decide +kernel
theorem dX10_layOn_43 : decode cX10_layOn 43 = .ok (.if_icmp .eq 10, 3) := by decide +kernel
theorem dX10_layOn_46 : decode cX10_layOn 46 = .ok (.aload_n 1, 1) := by decide +kernel
theorem dX10_layOn_47 : decode cX10_layOn 47 = .ok (.aload_n 2, 1) := by decide +kernel
theorem dX10_layOn_48 : decode cX10_layOn 48 = .ok (.iload 5, 2) := by decide +kernel
theorem dX10_layOn_50 : decode cX10_layOn 50 = .ok (.invokestatic 126, 3) := by decide +kernel
theorem dX10_layOn_53 : decode cX10_layOn 53 = .ok (.iinc 4 1, 3) := by decide +kernel
theorem dX10_layOn_56 : decode cX10_layOn 56 = .ok (.goto (-53), 3) := by decide +kernel
theorem dX10_layOn_59 : decode cX10_layOn 59 = .ok (.return_, 1) := by decide +kernel
theorem dX10_lay_0 : decode cX10_lay 0 = .ok (.aload_n 0, 1) := by decide +kernel
theorem dX10_lay_1 : decode cX10_lay 1 = .ok (.invokevirtual 137, 3) := by decide +kernel
theorem dX10_lay_4 : decode cX10_lay 4 = .ok (.ifCond .eq 6, 3) := by decide +kernel
theorem dX10_lay_7 : decode cX10_lay 7 = .ok (.bipush (-103), 2) := by decide +kernel
theorem dX10_lay_9 : decode cX10_lay 9 = .ok (.ireturn, 1) := by decide +kernel
theorem dX10_lay_10 : decode cX10_lay 10 = .ok (.aload_n 0, 1) := by decide +kernel
theorem dX10_lay_11 : decode cX10_lay 11 = .ok (.iload_n 1, 1) := by decide +kernel
theorem dX10_lay_12 : decode cX10_lay 12 = .ok (.invokevirtual 141, 3) := by decide +kernel
theorem dX10_lay_15 : decode cX10_lay 15 = .ok (.ifCond .ne 6, 3) := by decide +kernel
theorem dX10_lay_18 : decode cX10_lay 18 = .ok (.bipush (-102), 2) := by decide +kernel
theorem dX10_lay_20 : decode cX10_lay 20 = .ok (.ireturn, 1) := by decide +kernel
theorem dX10_lay_21 : decode cX10_lay 21 = .ok (.aload_n 0, 1) := by decide +kernel
theorem dX10_lay_22 : decode cX10_lay 22 = .ok (.aload_n 0, 1) := by decide +kernel
theorem dX10_lay_23 : decode cX10_lay 23 = .ok (.getfield 22, 3) := by decide +kernel
theorem dX10_lay_26 : decode cX10_lay 26 = .ok (.invokevirtual 144, 3) := by decide +kernel
theorem dX10_lay_29 : decode cX10_lay 29 = .ok (.ifCond .ne 6, 3) := by decide +kernel
theorem dX10_lay_32 : decode cX10_lay 32 = .ok (.bipush (-103), 2) := by decide +kernel
theorem dX10_lay_34 : decode cX10_lay 34 = .ok (.ireturn, 1) := by decide +kernel
theorem dX10_lay_35 : decode cX10_lay 35 = .ok (.aload_n 0, 1) := by decide +kernel
theorem dX10_lay_36 : decode cX10_lay 36 = .ok (.aload_n 0, 1) := by decide +kernel
theorem dX10_lay_37 : decode cX10_lay 37 = .ok (.getfield 16, 3) := by decide +kernel
theorem dX10_lay_40 : decode cX10_lay 40 = .ok (.aload_n 0, 1) := by decide +kernel
theorem dX10_lay_41 : decode cX10_lay 41 = .ok (.getfield 19, 3) := by decide +kernel
theorem dX10_lay_44 : decode cX10_lay 44 = .ok (.aload_n 0, 1) := by decide +kernel
theorem dX10_lay_45 : decode cX10_lay 45 = .ok (.getfield 22, 3) := by decide +kernel
theorem dX10_lay_48 : decode cX10_lay 48 = .ok (.invokevirtual 148, 3) := by decide +kernel
theorem dX10_lay_51 : decode cX10_lay 51 = .ok (.aload_n 0, 1) := by decide +kernel
theorem dX10_lay_52 : decode cX10_lay 52 = .ok (.aload_n 0, 1) := by decide +kernel
theorem dX10_lay_53 : decode cX10_lay 53 = .ok (.getfield 16, 3) := by decide +kernel
theorem dX10_lay_56 : decode cX10_lay 56 = .ok (.invokevirtual 152, 3) := by decide +kernel
theorem dX10_lay_59 : decode cX10_lay 59 = .ok (.ireturn, 1) := by decide +kernel
theorem dX10_lawful_0 : decode cX10_lawful 0 = .ok (.aload_n 0, 1) := by decide +kernel
theorem dX10_lawful_1 : decode cX10_lawful 1 = .ok (.invokevirtual 137, 3) := by decide +kernel
theorem dX10_lawful_4 : decode cX10_lawful 4 = .ok (.ifCond .eq 6, 3) := by decide +kernel
theorem dX10_lawful_7 : decode cX10_lawful 7 = .ok (.bipush (-103), 2) := by decide +kernel
theorem dX10_lawful_9 : decode cX10_lawful 9 = .ok (.ireturn, 1) := by decide +kernel
theorem dX10_lawful_10 : decode cX10_lawful 10 = .ok (.aload_n 0, 1) := by decide +kernel
theorem dX10_lawful_11 : decode cX10_lawful 11 = .ok (.iload_n 1, 1) := by decide +kernel
theorem dX10_lawful_12 : decode cX10_lawful 12 = .ok (.invokevirtual 141, 3) := by decide +kernel
theorem dX10_lawful_15 : decode cX10_lawful 15 = .ok (.ifCond .ne 6, 3) := by decide +kernel
theorem dX10_lawful_18 : decode cX10_lawful 18 = .ok (.bipush (-102), 2) := by decide +kernel
theorem dX10_lawful_20 : decode cX10_lawful 20 = .ok (.ireturn, 1) := by decide +kernel
theorem dX10_lawful_21 : decode cX10_lawful 21 = .ok (.aload_n 0, 1) := by decide +kernel
theorem dX10_lawful_22 : decode cX10_lawful 22 = .ok (.aload_n 0, 1) := by decide +kernel
theorem dX10_lawful_23 : decode cX10_lawful 23 = .ok (.getfield 22, 3) := by decide +kernel
theorem dX10_lawful_26 : decode cX10_lawful 26 = .ok (.invokevirtual 144, 3) := by decide +kernel
theorem dX10_lawful_29 : decode cX10_lawful 29 = .ok (.ifCond .eq 7, 3) := by decide +kernel
theorem dX10_lawful_32 : decode cX10_lawful 32 = .ok (.iconst 1, 1) := by decide +kernel
theorem dX10_lawful_33 : decode cX10_lawful 33 = .ok (.goto 4, 3) := by decide +kernel
theorem dX10_lawful_36 : decode cX10_lawful 36 = .ok (.iconst 0, 1) := by decide +kernel
theorem dX10_lawful_37 : decode cX10_lawful 37 = .ok (.ireturn, 1) := by decide +kernel
theorem dX10_years_0 : decode cX10_years 0 = .ok (.aload_n 0, 1) := by decide +kernel
theorem dX10_years_1 : decode cX10_years 1 = .ok (.invokevirtual 137, 3) := by decide +kernel
theorem dX10_years_4 : decode cX10_years 4 = .ok (.ifCond .eq 6, 3) := by decide +kernel
theorem dX10_years_7 : decode cX10_years 7 = .ok (.bipush (-103), 2) := by decide +kernel
theorem dX10_years_9 : decode cX10_years 9 = .ok (.ireturn, 1) := by decide +kernel
theorem dX10_years_10 : decode cX10_years 10 = .ok (.iload_n 1, 1) := by decide +kernel
theorem dX10_years_11 : decode cX10_years 11 = .ok (.i2l, 1) := by decide +kernel
theorem dX10_years_12 : decode cX10_years 12 = .ok (.lconst 1, 1) := by decide +kernel
theorem dX10_years_13 : decode cX10_years 13 = .ok (.ldc2_w 156, 3) := by decide +kernel
theorem dX10_years_16 : decode cX10_years 16 = .ok (.invokestatic 68, 3) := by decide +kernel
theorem dX10_years_19 : decode cX10_years 19 = .ok (.ifCond .ne 6, 3) := by decide +kernel
theorem dX10_years_22 : decode cX10_years 22 = .ok (.bipush (-102), 2) := by decide +kernel
theorem dX10_years_24 : decode cX10_years 24 = .ok (.ireturn, 1) := by decide +kernel
theorem dX10_years_25 : decode cX10_years 25 = .ok (.iconst 0, 1) := by decide +kernel
theorem dX10_years_26 : decode cX10_years 26 = .ok (.istore_n 2, 1) := by decide +kernel
theorem dX10_years_27 : decode cX10_years 27 = .ok (.iload_n 2, 1) := by decide +kernel
theorem dX10_years_28 : decode cX10_years 28 = .ok (.iload_n 1, 1) := by decide +kernel
theorem dX10_years_29 : decode cX10_years 29 = .ok (.if_icmp .ge 21, 3) := by decide +kernel
theorem dX10_years_32 : decode cX10_years 32 = .ok (.aload_n 0, 1) := by decide +kernel
theorem dX10_years_33 : decode cX10_years 33 = .ok (.aload_n 0, 1) := by decide +kernel
theorem dX10_years_34 : decode cX10_years 34 = .ok (.getfield 16, 3) := by decide +kernel
theorem dX10_years_37 : decode cX10_years 37 = .ok (.aload_n 0, 1) := by decide +kernel
theorem dX10_years_38 : decode cX10_years 38 = .ok (.getfield 22, 3) := by decide +kernel
theorem dX10_years_41 : decode cX10_years 41 = .ok (.invokevirtual 158, 3) := by decide +kernel
theorem dX10_years_44 : decode cX10_years 44 = .ok (.iinc 2 1, 3) := by decide +kernel
theorem dX10_years_47 : decode cX10_years 47 = .ok (.goto (-20), 3) := by decide +kernel
theorem dX10_years_50 : decode cX10_years 50 = .ok (.aload_n 0, 1) := by decide +kernel
theorem dX10_years_51 : decode cX10_years 51 = .ok (.aload_n 0, 1) := by decide +kernel
theorem dX10_years_52 : decode cX10_years 52 = .ok (.getfield 16, 3) := by decide +kernel
theorem dX10_years_55 : decode cX10_years 55 = .ok (.invokevirtual 152, 3) := by decide +kernel
theorem dX10_years_58 : decode cX10_years 58 = .ok (.ireturn, 1) := by decide +kernel
theorem dX10_worst_0 : decode cX10_worst 0 = .ok (.aload_n 0, 1) := by decide +kernel
theorem dX10_worst_1 : decode cX10_worst 1 = .ok (.invokevirtual 137, 3) := by decide +kernel
theorem dX10_worst_4 : decode cX10_worst 4 = .ok (.ifCond .eq 8, 3) := by decide +kernel
theorem dX10_worst_7 : decode cX10_worst 7 = .ok (.bipush (-103), 2) := by decide +kernel
theorem dX10_worst_9 : decode cX10_worst 9 = .ok (.goto 11, 3) := by decide +kernel
theorem dX10_worst_12 : decode cX10_worst 12 = .ok (.aload_n 0, 1) := by decide +kernel
theorem dX10_worst_13 : decode cX10_worst 13 = .ok (.aload_n 0, 1) := by decide +kernel
theorem dX10_worst_14 : decode cX10_worst 14 = .ok (.getfield 16, 3) := by decide +kernel
theorem dX10_worst_17 : decode cX10_worst 17 = .ok (.invokevirtual 152, 3) := by decide +kernel
theorem dX10_worst_20 : decode cX10_worst 20 = .ok (.ireturn, 1) := by decide +kernel
theorem dX10_wouldBe_0 : decode cX10_wouldBe 0 = .ok (.iconst 0, 1) := by decide +kernel
theorem dX10_wouldBe_1 : decode cX10_wouldBe 1 = .ok (.istore_n 3, 1) := by decide +kernel
theorem dX10_wouldBe_2 : decode cX10_wouldBe 2 = .ok (.iconst 0, 1) := by decide +kernel
theorem dX10_wouldBe_3 : decode cX10_wouldBe 3 = .ok (.istore 4, 2) := by decide +kernel
theorem dX10_wouldBe_5 : decode cX10_wouldBe 5 = .ok (.iload 4, 2) := by decide +kernel
theorem dX10_wouldBe_7 : decode cX10_wouldBe 7 = .ok (.aload_n 0, 1) := by decide +kernel
theorem dX10_wouldBe_8 : decode cX10_wouldBe 8 = .ok (.getfield 105, 3) := by decide +kernel
theorem dX10_wouldBe_11 : decode cX10_wouldBe 11 = .ok (.if_icmp .ge 92, 3) := by decide +kernel
theorem dX10_wouldBe_14 : decode cX10_wouldBe 14 = .ok (.aload_n 0, 1) := by decide +kernel
theorem dX10_wouldBe_15 : decode cX10_wouldBe 15 = .ok (.getfield 31, 3) := by decide +kernel
theorem dX10_wouldBe_18 : decode cX10_wouldBe 18 = .ok (.iload 4, 2) := by decide +kernel
theorem dX10_wouldBe_20 : decode cX10_wouldBe 20 = .ok (.iaload, 1) := by decide +kernel
theorem dX10_wouldBe_21 : decode cX10_wouldBe 21 = .ok (.istore 5, 2) := by decide +kernel
theorem dX10_wouldBe_23 : decode cX10_wouldBe 23 = .ok (.aload_n 0, 1) := by decide +kernel
theorem dX10_wouldBe_24 : decode cX10_wouldBe 24 = .ok (.getfield 92, 3) := by decide +kernel
theorem dX10_wouldBe_27 : decode cX10_wouldBe 27 = .ok (.iconst 1, 1) := by decide +kernel
theorem dX10_wouldBe_28 : decode cX10_wouldBe 28 = .ok (.if_icmp .ne 18, 3) := by decide +kernel
theorem dX10_wouldBe_31 : decode cX10_wouldBe 31 = .ok (.aload_n 0, 1) := by decide +kernel
theorem dX10_wouldBe_32 : decode cX10_wouldBe 32 = .ok (.getfield 13, 3) := by decide +kernel
theorem dX10_wouldBe_35 : decode cX10_wouldBe 35 = .ok (.iload 5, 2) := by decide +kernel
theorem dX10_wouldBe_37 : decode cX10_wouldBe 37 = .ok (.iaload, 1) := by decide +kernel
theorem dX10_wouldBe_38 : decode cX10_wouldBe 38 = .ok (.iconst 4, 1) := by decide +kernel
theorem dX10_wouldBe_39 : decode cX10_wouldBe 39 = .ok (.if_icmp .eq 7, 3) := by decide +kernel
theorem dX10_wouldBe_42 : decode cX10_wouldBe 42 = .ok (.iconst 1, 1) := by decide +kernel
theorem dX10_wouldBe_43 : decode cX10_wouldBe 43 = .ok (.goto 4, 3) := by decide +kernel
theorem dX10_wouldBe_46 : decode cX10_wouldBe 46 = .ok (.iconst 0, 1) := by decide +kernel
theorem dX10_wouldBe_47 : decode cX10_wouldBe 47 = .ok (.istore 6, 2) := by decide +kernel
theorem dX10_wouldBe_49 : decode cX10_wouldBe 49 = .ok (.aload_n 0, 1) := by decide +kernel
theorem dX10_wouldBe_50 : decode cX10_wouldBe 50 = .ok (.getfield 13, 3) := by decide +kernel
theorem dX10_wouldBe_53 : decode cX10_wouldBe 53 = .ok (.iload 5, 2) := by decide +kernel
theorem dX10_wouldBe_55 : decode cX10_wouldBe 55 = .ok (.iaload, 1) := by decide +kernel
theorem dX10_wouldBe_56 : decode cX10_wouldBe 56 = .ok (.iload 6, 2) := by decide +kernel
theorem dX10_wouldBe_58 : decode cX10_wouldBe 58 = .ok (.ifCond .eq 10, 3) := by decide +kernel
theorem dX10_wouldBe_61 : decode cX10_wouldBe 61 = .ok (.aload_n 2, 1) := by decide +kernel
theorem dX10_wouldBe_62 : decode cX10_wouldBe 62 = .ok (.iload 5, 2) := by decide +kernel
theorem dX10_wouldBe_64 : decode cX10_wouldBe 64 = .ok (.iaload, 1) := by decide +kernel
theorem dX10_wouldBe_65 : decode cX10_wouldBe 65 = .ok (.goto 7, 3) := by decide +kernel
theorem dX10_wouldBe_68 : decode cX10_wouldBe 68 = .ok (.aload_n 1, 1) := by decide +kernel
theorem dX10_wouldBe_69 : decode cX10_wouldBe 69 = .ok (.iload 5, 2) := by decide +kernel
theorem dX10_wouldBe_71 : decode cX10_wouldBe 71 = .ok (.iaload, 1) := by decide +kernel
theorem dX10_wouldBe_72 : decode cX10_wouldBe 72 = .ok (.aload_n 0, 1) := by decide +kernel
theorem dX10_wouldBe_73 : decode cX10_wouldBe 73 = .ok (.getfield 28, 3) := by decide +kernel
theorem dX10_wouldBe_76 : decode cX10_wouldBe 76 = .ok (.iload 4, 2) := by decide +kernel
theorem dX10_wouldBe_78 : decode cX10_wouldBe 78 = .ok (.iaload, 1) := by decide +kernel
theorem dX10_wouldBe_79 : decode cX10_wouldBe 79 = .ok (.invokestatic 133, 3) := by decide +kernel
theorem dX10_wouldBe_82 : decode cX10_wouldBe 82 = .ok (.istore 7, 2) := by decide +kernel
theorem dX10_wouldBe_84 : decode cX10_wouldBe 84 = .ok (.iload 7, 2) := by decide +kernel
theorem dX10_wouldBe_86 : decode cX10_wouldBe 86 = .ok (.iload_n 3, 1) := by decide +kernel
theorem dX10_wouldBe_87 : decode cX10_wouldBe 87 = .ok (.if_icmp .le 8, 3) := by decide +kernel
theorem dX10_wouldBe_90 : decode cX10_wouldBe 90 = .ok (.iload 7, 2) := by decide +kernel
theorem dX10_wouldBe_92 : decode cX10_wouldBe 92 = .ok (.goto 4, 3) := by decide +kernel
theorem dX10_wouldBe_95 : decode cX10_wouldBe 95 = .ok (.iload_n 3, 1) := by decide +kernel
theorem dX10_wouldBe_96 : decode cX10_wouldBe 96 = .ok (.istore_n 3, 1) := by decide +kernel
theorem dX10_wouldBe_97 : decode cX10_wouldBe 97 = .ok (.iinc 4 1, 3) := by decide +kernel
theorem dX10_wouldBe_100 : decode cX10_wouldBe 100 = .ok (.goto (-95), 3) := by decide +kernel
theorem dX10_wouldBe_103 : decode cX10_wouldBe 103 = .ok (.iload_n 3, 1) := by decide +kernel
theorem dX10_wouldBe_104 : decode cX10_wouldBe 104 = .ok (.ireturn, 1) := by decide +kernel
theorem dX10_findBest_0 : decode cX10_findBest 0 = .ok (.aload_n 0, 1) := by decide +kernel
theorem dX10_findBest_1 : decode cX10_findBest 1 = .ok (.iconst (-1), 1) := by decide +kernel
theorem dX10_findBest_2 : decode cX10_findBest 2 = .ok (.putfield 162, 3) := by decide +kernel
theorem dX10_findBest_5 : decode cX10_findBest 5 = .ok (.aload_n 0, 1) := by decide +kernel
theorem dX10_findBest_6 : decode cX10_findBest 6 = .ok (.ldc 165, 2) := by decide +kernel
theorem dX10_findBest_8 : decode cX10_findBest 8 = .ok (.putfield 166, 3) := by decide +kernel
theorem dX10_findBest_11 : decode cX10_findBest 11 = .ok (.iconst 0, 1) := by decide +kernel
theorem dX10_findBest_12 : decode cX10_findBest 12 = .ok (.istore 4, 2) := by decide +kernel
theorem dX10_findBest_14 : decode cX10_findBest 14 = .ok (.iconst 1, 1) := by decide +kernel
theorem dX10_findBest_15 : decode cX10_findBest 15 = .ok (.istore 5, 2) := by decide +kernel
theorem dX10_findBest_17 : decode cX10_findBest 17 = .ok (.aload_n 0, 1) := by decide +kernel
theorem dX10_findBest_18 : decode cX10_findBest 18 = .ok (.invokevirtual 169, 3) := by decide +kernel
theorem dX10_findBest_21 : decode cX10_findBest 21 = .ok (.iload 5, 2) := by decide +kernel
theorem dX10_findBest_23 : decode cX10_findBest 23 = .ok (.ifCond .eq 77, 3) := by decide +kernel
theorem dX10_findBest_26 : decode cX10_findBest 26 = .ok (.aload_n 0, 1) := by decide +kernel
theorem dX10_findBest_27 : decode cX10_findBest 27 = .ok (.aload_n 3, 1) := by decide +kernel
theorem dX10_findBest_28 : decode cX10_findBest 28 = .ok (.invokevirtual 144, 3) := by decide +kernel
theorem dX10_findBest_31 : decode cX10_findBest 31 = .ok (.ifCond .eq 60, 3) := by decide +kernel
theorem dX10_findBest_34 : decode cX10_findBest 34 = .ok (.iinc 4 1, 3) := by decide +kernel
theorem dX10_findBest_37 : decode cX10_findBest 37 = .ok (.aload_n 0, 1) := by decide +kernel
theorem dX10_findBest_38 : decode cX10_findBest 38 = .ok (.aload_n 1, 1) := by decide +kernel
theorem dX10_findBest_39 : decode cX10_findBest 39 = .ok (.aload_n 2, 1) := by decide +kernel
theorem dX10_findBest_40 : decode cX10_findBest 40 = .ok (.invokevirtual 172, 3) := by decide +kernel
theorem dX10_findBest_43 : decode cX10_findBest 43 = .ok (.istore 6, 2) := by decide +kernel
theorem dX10_findBest_45 : decode cX10_findBest 45 = .ok (.aload_n 0, 1) := by decide +kernel
theorem dX10_findBest_46 : decode cX10_findBest 46 = .ok (.iload 6, 2) := by decide +kernel
theorem dX10_findBest_48 : decode cX10_findBest 48 = .ok (.aload_n 0, 1) := by decide +kernel
theorem dX10_findBest_49 : decode cX10_findBest 49 = .ok (.getfield 166, 3) := by decide +kernel
theorem dX10_findBest_52 : decode cX10_findBest 52 = .ok (.if_icmp .ge 10, 3) := by decide +kernel
theorem dX10_findBest_55 : decode cX10_findBest 55 = .ok (.aload_n 0, 1) := by decide +kernel
theorem dX10_findBest_56 : decode cX10_findBest 56 = .ok (.invokevirtual 176, 3) := by decide +kernel
theorem dX10_findBest_59 : decode cX10_findBest 59 = .ok (.goto 7, 3) := by decide +kernel
theorem dX10_findBest_62 : decode cX10_findBest 62 = .ok (.aload_n 0, 1) := by decide +kernel
theorem dX10_findBest_63 : decode cX10_findBest 63 = .ok (.getfield 162, 3) := by decide +kernel
theorem dX10_findBest_66 : decode cX10_findBest 66 = .ok (.putfield 162, 3) := by decide +kernel
theorem dX10_findBest_69 : decode cX10_findBest 69 = .ok (.aload_n 0, 1) := by decide +kernel
theorem dX10_findBest_70 : decode cX10_findBest 70 = .ok (.iload 6, 2) := by decide +kernel
theorem dX10_findBest_72 : decode cX10_findBest 72 = .ok (.aload_n 0, 1) := by decide +kernel
theorem dX10_findBest_73 : decode cX10_findBest 73 = .ok (.getfield 166, 3) := by decide +kernel
theorem dX10_findBest_76 : decode cX10_findBest 76 = .ok (.if_icmp .ge 8, 3) := by decide +kernel
theorem dX10_findBest_79 : decode cX10_findBest 79 = .ok (.iload 6, 2) := by decide +kernel
theorem dX10_findBest_81 : decode cX10_findBest 81 = .ok (.goto 7, 3) := by decide +kernel
theorem dX10_findBest_84 : decode cX10_findBest 84 = .ok (.aload_n 0, 1) := by decide +kernel
theorem dX10_findBest_85 : decode cX10_findBest 85 = .ok (.getfield 166, 3) := by decide +kernel
theorem dX10_findBest_88 : decode cX10_findBest 88 = .ok (.putfield 166, 3) := by decide +kernel
theorem dX10_findBest_91 : decode cX10_findBest 91 = .ok (.aload_n 0, 1) := by decide +kernel
theorem dX10_findBest_92 : decode cX10_findBest 92 = .ok (.invokevirtual 179, 3) := by decide +kernel
theorem dX10_findBest_95 : decode cX10_findBest 95 = .ok (.istore 5, 2) := by decide +kernel
theorem dX10_findBest_97 : decode cX10_findBest 97 = .ok (.goto (-76), 3) := by decide +kernel
theorem dX10_findBest_100 : decode cX10_findBest 100 = .ok (.iload 4, 2) := by decide +kernel
theorem dX10_findBest_102 : decode cX10_findBest 102 = .ok (.ireturn, 1) := by decide +kernel
theorem dX10_best_0 : decode cX10_best 0 = .ok (.aload_n 0, 1) := by decide +kernel
theorem dX10_best_1 : decode cX10_best 1 = .ok (.invokevirtual 137, 3) := by decide +kernel
theorem dX10_best_4 : decode cX10_best 4 = .ok (.ifCond .eq 6, 3) := by decide +kernel
theorem dX10_best_7 : decode cX10_best 7 = .ok (.bipush (-103), 2) := by decide +kernel
theorem dX10_best_9 : decode cX10_best 9 = .ok (.ireturn, 1) := by decide +kernel
theorem dX10_best_10 : decode cX10_best 10 = .ok (.iload_n 1, 1) := by decide +kernel
theorem dX10_best_11 : decode cX10_best 11 = .ok (.i2l, 1) := by decide +kernel
theorem dX10_best_12 : decode cX10_best 12 = .ok (.lconst 0, 1) := by decide +kernel
theorem dX10_best_13 : decode cX10_best 13 = .ok (.lconst 1, 1) := by decide +kernel
theorem dX10_best_14 : decode cX10_best 14 = .ok (.invokestatic 68, 3) := by decide +kernel
theorem dX10_best_17 : decode cX10_best 17 = .ok (.ifCond .ne 6, 3) := by decide +kernel
theorem dX10_best_20 : decode cX10_best 20 = .ok (.bipush (-102), 2) := by decide +kernel
theorem dX10_best_22 : decode cX10_best 22 = .ok (.ireturn, 1) := by decide +kernel
theorem dX10_best_23 : decode cX10_best 23 = .ok (.aload_n 0, 1) := by decide +kernel
theorem dX10_best_24 : decode cX10_best 24 = .ok (.getfield 182, 3) := by decide +kernel
theorem dX10_best_27 : decode cX10_best 27 = .ok (.bipush 40, 2) := by decide +kernel
theorem dX10_best_29 : decode cX10_best 29 = .ok (.if_icmp .ne 6, 3) := by decide +kernel
theorem dX10_best_32 : decode cX10_best 32 = .ok (.bipush (-103), 2) := by decide +kernel
theorem dX10_best_34 : decode cX10_best 34 = .ok (.ireturn, 1) := by decide +kernel
theorem dX10_best_35 : decode cX10_best 35 = .ok (.aload_n 0, 1) := by decide +kernel
theorem dX10_best_36 : decode cX10_best 36 = .ok (.dup, 1) := by decide +kernel
theorem dX10_best_37 : decode cX10_best 37 = .ok (.getfield 182, 3) := by decide +kernel
theorem dX10_best_40 : decode cX10_best 40 = .ok (.iconst 1, 1) := by decide +kernel
theorem dX10_best_41 : decode cX10_best 41 = .ok (.iadd, 1) := by decide +kernel
theorem dX10_best_42 : decode cX10_best 42 = .ok (.putfield 182, 3) := by decide +kernel
theorem dX10_best_45 : decode cX10_best 45 = .ok (.aload_n 0, 1) := by decide +kernel
theorem dX10_best_46 : decode cX10_best 46 = .ok (.aload_n 0, 1) := by decide +kernel
theorem dX10_best_47 : decode cX10_best 47 = .ok (.getfield 16, 3) := by decide +kernel
theorem dX10_best_50 : decode cX10_best 50 = .ok (.aload_n 0, 1) := by decide +kernel
theorem dX10_best_51 : decode cX10_best 51 = .ok (.getfield 19, 3) := by decide +kernel
theorem dX10_best_54 : decode cX10_best 54 = .ok (.aload_n 0, 1) := by decide +kernel
theorem dX10_best_55 : decode cX10_best 55 = .ok (.getfield 22, 3) := by decide +kernel
theorem dX10_best_58 : decode cX10_best 58 = .ok (.invokevirtual 185, 3) := by decide +kernel
theorem dX10_best_61 : decode cX10_best 61 = .ok (.istore_n 2, 1) := by decide +kernel
theorem dX10_best_62 : decode cX10_best 62 = .ok (.iload_n 2, 1) := by decide +kernel
theorem dX10_best_63 : decode cX10_best 63 = .ok (.ifCond .eq 8, 3) := by decide +kernel
theorem dX10_best_66 : decode cX10_best 66 = .ok (.iload_n 1, 1) := by decide +kernel
theorem dX10_best_67 : decode cX10_best 67 = .ok (.iconst 1, 1) := by decide +kernel
theorem dX10_best_68 : decode cX10_best 68 = .ok (.if_icmp .ne 10, 3) := by decide +kernel
theorem dX10_best_71 : decode cX10_best 71 = .ok (.aload_n 0, 1) := by decide +kernel
theorem dX10_best_72 : decode cX10_best 72 = .ok (.getfield 162, 3) := by decide +kernel
theorem dX10_best_75 : decode cX10_best 75 = .ok (.goto 7, 3) := by decide +kernel
theorem dX10_best_78 : decode cX10_best 78 = .ok (.aload_n 0, 1) := by decide +kernel
theorem dX10_best_79 : decode cX10_best 79 = .ok (.getfield 166, 3) := by decide +kernel
theorem dX10_best_82 : decode cX10_best 82 = .ok (.ireturn, 1) := by decide +kernel
theorem dX10_howMany_0 : decode cX10_howMany 0 = .ok (.aload_n 0, 1) := by decide +kernel
theorem dX10_howMany_1 : decode cX10_howMany 1 = .ok (.invokevirtual 137, 3) := by decide +kernel
theorem dX10_howMany_4 : decode cX10_howMany 4 = .ok (.ifCond .ne 12, 3) := by decide +kernel
theorem dX10_howMany_7 : decode cX10_howMany 7 = .ok (.aload_n 0, 1) := by decide +kernel
theorem dX10_howMany_8 : decode cX10_howMany 8 = .ok (.getfield 182, 3) := by decide +kernel
theorem dX10_howMany_11 : decode cX10_howMany 11 = .ok (.bipush 40, 2) := by decide +kernel
theorem dX10_howMany_13 : decode cX10_howMany 13 = .ok (.if_icmp .ne 6, 3) := by decide +kernel
theorem dX10_howMany_16 : decode cX10_howMany 16 = .ok (.bipush (-103), 2) := by decide +kernel
theorem dX10_howMany_18 : decode cX10_howMany 18 = .ok (.ireturn, 1) := by decide +kernel
theorem dX10_howMany_19 : decode cX10_howMany 19 = .ok (.aload_n 0, 1) := by decide +kernel
theorem dX10_howMany_20 : decode cX10_howMany 20 = .ok (.dup, 1) := by decide +kernel
theorem dX10_howMany_21 : decode cX10_howMany 21 = .ok (.getfield 182, 3) := by decide +kernel
theorem dX10_howMany_24 : decode cX10_howMany 24 = .ok (.iconst 1, 1) := by decide +kernel
theorem dX10_howMany_25 : decode cX10_howMany 25 = .ok (.iadd, 1) := by decide +kernel
theorem dX10_howMany_26 : decode cX10_howMany 26 = .ok (.putfield 182, 3) := by decide +kernel
theorem dX10_howMany_29 : decode cX10_howMany 29 = .ok (.aload_n 0, 1) := by decide +kernel
theorem dX10_howMany_30 : decode cX10_howMany 30 = .ok (.aload_n 0, 1) := by decide +kernel
theorem dX10_howMany_31 : decode cX10_howMany 31 = .ok (.getfield 16, 3) := by decide +kernel
theorem dX10_howMany_34 : decode cX10_howMany 34 = .ok (.aload_n 0, 1) := by decide +kernel
theorem dX10_howMany_35 : decode cX10_howMany 35 = .ok (.getfield 19, 3) := by decide +kernel
theorem dX10_howMany_38 : decode cX10_howMany 38 = .ok (.aload_n 0, 1) := by decide +kernel
theorem dX10_howMany_39 : decode cX10_howMany 39 = .ok (.getfield 22, 3) := by decide +kernel
theorem dX10_howMany_42 : decode cX10_howMany 42 = .ok (.invokevirtual 185, 3) := by decide +kernel
theorem dX10_howMany_45 : decode cX10_howMany 45 = .ok (.ireturn, 1) := by decide +kernel
theorem dX10_tellCarried_0 : decode cX10_tellCarried 0 = .ok (.iconst 0, 1) := by decide +kernel
theorem dX10_tellCarried_1 : decode cX10_tellCarried 1 = .ok (.istore_n 2, 1) := by decide +kernel
theorem dX10_tellCarried_2 : decode cX10_tellCarried 2 = .ok (.iconst 0, 1) := by decide +kernel
theorem dX10_tellCarried_3 : decode cX10_tellCarried 3 = .ok (.istore_n 3, 1) := by decide +kernel
theorem dX10_tellCarried_4 : decode cX10_tellCarried 4 = .ok (.iconst 0, 1) := by decide +kernel
theorem dX10_tellCarried_5 : decode cX10_tellCarried 5 = .ok (.istore 4, 2) := by decide +kernel
theorem dX10_tellCarried_7 : decode cX10_tellCarried 7 = .ok (.iconst 0, 1) := by decide +kernel
theorem dX10_tellCarried_8 : decode cX10_tellCarried 8 = .ok (.istore 5, 2) := by decide +kernel
theorem dX10_tellCarried_10 : decode cX10_tellCarried 10 = .ok (.iconst 0, 1) := by decide +kernel
theorem dX10_tellCarried_11 : decode cX10_tellCarried 11 = .ok (.istore 6, 2) := by decide +kernel
theorem dX10_tellCarried_13 : decode cX10_tellCarried 13 = .ok (.iload 6, 2) := by decide +kernel
theorem dX10_tellCarried_15 : decode cX10_tellCarried 15 = .ok (.aload_n 0, 1) := by decide +kernel
theorem dX10_tellCarried_16 : decode cX10_tellCarried 16 = .ok (.getfield 105, 3) := by decide +kernel
theorem dX10_tellCarried_19 : decode cX10_tellCarried 19 = .ok (.if_icmp .ge 129, 3) := by decide +kernel
theorem dX10_tellCarried_22 : decode cX10_tellCarried 22 = .ok (.aload_n 0, 1) := by decide +kernel
theorem dX10_tellCarried_23 : decode cX10_tellCarried 23 = .ok (.getfield 22, 3) := by decide +kernel
theorem dX10_tellCarried_26 : decode cX10_tellCarried 26 = .ok (.aload_n 0, 1) := by decide +kernel
theorem dX10_tellCarried_27 : decode cX10_tellCarried 27 = .ok (.getfield 31, 3) := by decide +kernel
theorem dX10_tellCarried_30 : decode cX10_tellCarried 30 = .ok (.iload 6, 2) := by decide +kernel
theorem dX10_tellCarried_32 : decode cX10_tellCarried 32 = .ok (.iaload, 1) := by decide +kernel
theorem dX10_tellCarried_33 : decode cX10_tellCarried 33 = .ok (.iaload, 1) := by decide +kernel
theorem dX10_tellCarried_34 : decode cX10_tellCarried 34 = .ok (.iload 6, 2) := by decide +kernel
theorem dX10_tellCarried_36 : decode cX10_tellCarried 36 = .ok (.isub, 1) := by decide +kernel
theorem dX10_tellCarried_37 : decode cX10_tellCarried 37 = .ok (.invokestatic 130, 3) := by decide +kernel
theorem dX10_tellCarried_40 : decode cX10_tellCarried 40 = .ok (.istore 7, 2) := by decide +kernel
theorem dX10_tellCarried_42 : decode cX10_tellCarried 42 = .ok (.iload_n 2, 1) := by decide +kernel
theorem dX10_tellCarried_43 : decode cX10_tellCarried 43 = .ok (.iload 6, 2) := by decide +kernel
theorem dX10_tellCarried_45 : decode cX10_tellCarried 45 = .ok (.aload_n 0, 1) := by decide +kernel
theorem dX10_tellCarried_46 : decode cX10_tellCarried 46 = .ok (.getfield 105, 3) := by decide +kernel
theorem dX10_tellCarried_49 : decode cX10_tellCarried 49 = .ok (.iconst 2, 1) := by decide +kernel
theorem dX10_tellCarried_50 : decode cX10_tellCarried 50 = .ok (.idiv, 1) := by decide +kernel
theorem dX10_tellCarried_51 : decode cX10_tellCarried 51 = .ok (.if_icmp .ge 8, 3) := by decide +kernel
theorem dX10_tellCarried_54 : decode cX10_tellCarried 54 = .ok (.iload 7, 2) := by decide +kernel
theorem dX10_tellCarried_56 : decode cX10_tellCarried 56 = .ok (.goto 4, 3) := by decide +kernel
theorem dX10_tellCarried_59 : decode cX10_tellCarried 59 = .ok (.iconst 0, 1) := by decide +kernel
theorem dX10_tellCarried_60 : decode cX10_tellCarried 60 = .ok (.iadd, 1) := by decide +kernel
theorem dX10_tellCarried_61 : decode cX10_tellCarried 61 = .ok (.istore_n 2, 1) := by decide +kernel
theorem dX10_tellCarried_62 : decode cX10_tellCarried 62 = .ok (.iload_n 3, 1) := by decide +kernel
theorem dX10_tellCarried_63 : decode cX10_tellCarried 63 = .ok (.iload 6, 2) := by decide +kernel
theorem dX10_tellCarried_65 : decode cX10_tellCarried 65 = .ok (.aload_n 0, 1) := by decide +kernel
theorem dX10_tellCarried_66 : decode cX10_tellCarried 66 = .ok (.getfield 105, 3) := by decide +kernel
theorem dX10_tellCarried_69 : decode cX10_tellCarried 69 = .ok (.iconst 2, 1) := by decide +kernel
theorem dX10_tellCarried_70 : decode cX10_tellCarried 70 = .ok (.idiv, 1) := by decide +kernel
theorem dX10_tellCarried_71 : decode cX10_tellCarried 71 = .ok (.if_icmp .ge 7, 3) := by decide +kernel
theorem dX10_tellCarried_74 : decode cX10_tellCarried 74 = .ok (.iconst 0, 1) := by decide +kernel
theorem dX10_tellCarried_75 : decode cX10_tellCarried 75 = .ok (.goto 5, 3) := by decide +kernel
theorem dX10_tellCarried_78 : decode cX10_tellCarried 78 = .ok (.iload 7, 2) := by decide +kernel
theorem dX10_tellCarried_80 : decode cX10_tellCarried 80 = .ok (.iadd, 1) := by decide +kernel
theorem dX10_tellCarried_81 : decode cX10_tellCarried 81 = .ok (.istore_n 3, 1) := by decide +kernel
theorem dX10_tellCarried_82 : decode cX10_tellCarried 82 = .ok (.iload 4, 2) := by decide +kernel
theorem dX10_tellCarried_84 : decode cX10_tellCarried 84 = .ok (.iload 5, 2) := by decide +kernel
theorem dX10_tellCarried_86 : decode cX10_tellCarried 86 = .ok (.iload 6, 2) := by decide +kernel
theorem dX10_tellCarried_88 : decode cX10_tellCarried 88 = .ok (.ishr, 1) := by decide +kernel
theorem dX10_tellCarried_89 : decode cX10_tellCarried 89 = .ok (.iconst 1, 1) := by decide +kernel
theorem dX10_tellCarried_90 : decode cX10_tellCarried 90 = .ok (.iand, 1) := by decide +kernel
theorem dX10_tellCarried_91 : decode cX10_tellCarried 91 = .ok (.ifCond .ne 7, 3) := by decide +kernel
theorem dX10_tellCarried_94 : decode cX10_tellCarried 94 = .ok (.iconst 1, 1) := by decide +kernel
theorem dX10_tellCarried_95 : decode cX10_tellCarried 95 = .ok (.goto 4, 3) := by decide +kernel
theorem dX10_tellCarried_98 : decode cX10_tellCarried 98 = .ok (.iconst 0, 1) := by decide +kernel
theorem dX10_tellCarried_99 : decode cX10_tellCarried 99 = .ok (.iadd, 1) := by decide +kernel
theorem dX10_tellCarried_100 : decode cX10_tellCarried 100 = .ok (.istore 4, 2) := by decide +kernel
theorem dX10_tellCarried_102 : decode cX10_tellCarried 102 = .ok (.iload 6, 2) := by decide +kernel
theorem dX10_tellCarried_104 : decode cX10_tellCarried 104 = .ok (.istore 8, 2) := by decide +kernel
theorem dX10_tellCarried_106 : decode cX10_tellCarried 106 = .ok (.iload 5, 2) := by decide +kernel
theorem dX10_tellCarried_108 : decode cX10_tellCarried 108 = .ok (.iload 8, 2) := by decide +kernel
theorem dX10_tellCarried_110 : decode cX10_tellCarried 110 = .ok (.ishr, 1) := by decide +kernel
theorem dX10_tellCarried_111 : decode cX10_tellCarried 111 = .ok (.iconst 1, 1) := by decide +kernel
theorem dX10_tellCarried_112 : decode cX10_tellCarried 112 = .ok (.iand, 1) := by decide +kernel
theorem dX10_tellCarried_113 : decode cX10_tellCarried 113 = .ok (.ifCond .ne 29, 3) := by decide +kernel
theorem dX10_tellCarried_116 : decode cX10_tellCarried 116 = .ok (.iload 5, 2) := by decide +kernel
theorem dX10_tellCarried_118 : decode cX10_tellCarried 118 = .ok (.iconst 1, 1) := by decide +kernel
theorem dX10_tellCarried_119 : decode cX10_tellCarried 119 = .ok (.iload 8, 2) := by decide +kernel
theorem dX10_tellCarried_121 : decode cX10_tellCarried 121 = .ok (.ishl, 1) := by decide +kernel
theorem dX10_tellCarried_122 : decode cX10_tellCarried 122 = .ok (.ior, 1) := by decide +kernel
theorem dX10_tellCarried_123 : decode cX10_tellCarried 123 = .ok (.istore 5, 2) := by decide +kernel
theorem dX10_tellCarried_125 : decode cX10_tellCarried 125 = .ok (.aload_n 0, 1) := by decide +kernel
theorem dX10_tellCarried_126 : decode cX10_tellCarried 126 = .ok (.getfield 22, 3) := by decide +kernel
theorem dX10_tellCarried_129 : decode cX10_tellCarried 129 = .ok (.aload_n 0, 1) := by decide +kernel
theorem dX10_tellCarried_130 : decode cX10_tellCarried 130 = .ok (.getfield 31, 3) := by decide +kernel
theorem dX10_tellCarried_133 : decode cX10_tellCarried 133 = .ok (.iload 8, 2) := by decide +kernel
theorem dX10_tellCarried_135 : decode cX10_tellCarried 135 = .ok (.iaload, 1) := by decide +kernel
theorem dX10_tellCarried_136 : decode cX10_tellCarried 136 = .ok (.iaload, 1) := by decide +kernel
theorem dX10_tellCarried_137 : decode cX10_tellCarried 137 = .ok (.istore 8, 2) := by decide +kernel
theorem dX10_tellCarried_139 : decode cX10_tellCarried 139 = .ok (.goto (-33), 3) := by decide +kernel
theorem dX10_tellCarried_142 : decode cX10_tellCarried 142 = .ok (.iinc 6 1, 3) := by decide +kernel
theorem dX10_tellCarried_145 : decode cX10_tellCarried 145 = .ok (.goto (-132), 3) := by decide +kernel
theorem dX10_tellCarried_148 : decode cX10_tellCarried 148 = .ok (.iload_n 1, 1) := by decide +kernel
theorem dX10_tellCarried_149 : decode cX10_tellCarried 149 = .ok (.ifCond .ne 9, 3) := by decide +kernel
theorem dX10_tellCarried_152 : decode cX10_tellCarried 152 = .ok (.iload_n 2, 1) := by decide +kernel
theorem dX10_tellCarried_153 : decode cX10_tellCarried 153 = .ok (.iload_n 3, 1) := by decide +kernel
theorem dX10_tellCarried_154 : decode cX10_tellCarried 154 = .ok (.iadd, 1) := by decide +kernel
theorem dX10_tellCarried_155 : decode cX10_tellCarried 155 = .ok (.goto 28, 3) := by decide +kernel
theorem dX10_tellCarried_158 : decode cX10_tellCarried 158 = .ok (.iload_n 1, 1) := by decide +kernel
theorem dX10_tellCarried_159 : decode cX10_tellCarried 159 = .ok (.iconst 1, 1) := by decide +kernel
theorem dX10_tellCarried_160 : decode cX10_tellCarried 160 = .ok (.if_icmp .ne 13, 3) := by decide +kernel
theorem dX10_tellCarried_163 : decode cX10_tellCarried 163 = .ok (.aload_n 0, 1) := by decide +kernel
theorem dX10_tellCarried_164 : decode cX10_tellCarried 164 = .ok (.getfield 105, 3) := by decide +kernel
theorem dX10_tellCarried_167 : decode cX10_tellCarried 167 = .ok (.iload 4, 2) := by decide +kernel
theorem dX10_tellCarried_169 : decode cX10_tellCarried 169 = .ok (.isub, 1) := by decide +kernel
theorem dX10_tellCarried_170 : decode cX10_tellCarried 170 = .ok (.goto 13, 3) := by decide +kernel
theorem dX10_tellCarried_173 : decode cX10_tellCarried 173 = .ok (.iload_n 2, 1) := by decide +kernel
theorem dX10_tellCarried_174 : decode cX10_tellCarried 174 = .ok (.iload_n 3, 1) := by decide +kernel
theorem dX10_tellCarried_175 : decode cX10_tellCarried 175 = .ok (.if_icmp .le 7, 3) := by decide +kernel
theorem dX10_tellCarried_178 : decode cX10_tellCarried 178 = .ok (.iload_n 2, 1) := by decide +kernel
theorem dX10_tellCarried_179 : decode cX10_tellCarried 179 = .ok (.goto 4, 3) := by decide +kernel
theorem dX10_tellCarried_182 : decode cX10_tellCarried 182 = .ok (.iload_n 3, 1) := by decide +kernel
theorem dX10_tellCarried_183 : decode cX10_tellCarried 183 = .ok (.ireturn, 1) := by decide +kernel
theorem dX10_carried_0 : decode cX10_carried 0 = .ok (.aload_n 0, 1) := by decide +kernel
theorem dX10_carried_1 : decode cX10_carried 1 = .ok (.invokevirtual 137, 3) := by decide +kernel
theorem dX10_carried_4 : decode cX10_carried 4 = .ok (.ifCond .eq 6, 3) := by decide +kernel
theorem dX10_carried_7 : decode cX10_carried 7 = .ok (.bipush (-103), 2) := by decide +kernel
theorem dX10_carried_9 : decode cX10_carried 9 = .ok (.ireturn, 1) := by decide +kernel
theorem dX10_carried_10 : decode cX10_carried 10 = .ok (.aload_n 0, 1) := by decide +kernel
theorem dX10_carried_11 : decode cX10_carried 11 = .ok (.iload_n 1, 1) := by decide +kernel
theorem dX10_carried_12 : decode cX10_carried 12 = .ok (.invokevirtual 141, 3) := by decide +kernel
theorem dX10_carried_15 : decode cX10_carried 15 = .ok (.ifCond .eq 23, 3) := by decide +kernel
theorem dX10_carried_18 : decode cX10_carried 18 = .ok (.iload_n 2, 1) := by decide +kernel
theorem dX10_carried_19 : decode cX10_carried 19 = .ok (.i2l, 1) := by decide +kernel
theorem dX10_carried_20 : decode cX10_carried 20 = .ok (.lconst 0, 1) := by decide +kernel
theorem dX10_carried_21 : decode cX10_carried 21 = .ok (.ldc2_w 189, 3) := by decide +kernel
theorem dX10_carried_24 : decode cX10_carried 24 = .ok (.invokestatic 68, 3) := by decide +kernel
theorem dX10_carried_27 : decode cX10_carried 27 = .ok (.ifCond .eq 11, 3) := by decide +kernel
theorem dX10_carried_30 : decode cX10_carried 30 = .ok (.aload_n 0, 1) := by decide +kernel
theorem dX10_carried_31 : decode cX10_carried 31 = .ok (.iload_n 2, 1) := by decide +kernel
theorem dX10_carried_32 : decode cX10_carried 32 = .ok (.invokevirtual 191, 3) := by decide +kernel
theorem dX10_carried_35 : decode cX10_carried 35 = .ok (.goto 5, 3) := by decide +kernel
theorem dX10_carried_38 : decode cX10_carried 38 = .ok (.bipush (-102), 2) := by decide +kernel
theorem dX10_carried_40 : decode cX10_carried 40 = .ok (.ireturn, 1) := by decide +kernel
theorem dX10_draw_0 : decode cX10_draw 0 = .ok (.aload_n 0, 1) := by decide +kernel
theorem dX10_draw_1 : decode cX10_draw 1 = .ok (.ldc2_w 194, 3) := by decide +kernel
theorem dX10_draw_4 : decode cX10_draw 4 = .ok (.aload_n 0, 1) := by decide +kernel
theorem dX10_draw_5 : decode cX10_draw 5 = .ok (.getfield 196, 3) := by decide +kernel
theorem dX10_draw_8 : decode cX10_draw 8 = .ok (.i2l, 1) := by decide +kernel
theorem dX10_draw_9 : decode cX10_draw 9 = .ok (.lmul, 1) := by decide +kernel
theorem dX10_draw_10 : decode cX10_draw 10 = .ok (.ldc2_w 199, 3) := by decide +kernel
theorem dX10_draw_13 : decode cX10_draw 13 = .ok (.ladd, 1) := by decide +kernel
theorem dX10_draw_14 : decode cX10_draw 14 = .ok (.ldc2_w 201, 3) := by decide +kernel
theorem dX10_draw_17 : decode cX10_draw 17 = .ok (.land, 1) := by decide +kernel
theorem dX10_draw_18 : decode cX10_draw 18 = .ok (.l2i, 1) := by decide +kernel
theorem dX10_draw_19 : decode cX10_draw 19 = .ok (.putfield 196, 3) := by decide +kernel
theorem dX10_draw_22 : decode cX10_draw 22 = .ok (.aload_n 0, 1) := by decide +kernel
theorem dX10_draw_23 : decode cX10_draw 23 = .ok (.getfield 196, 3) := by decide +kernel
theorem dX10_draw_26 : decode cX10_draw 26 = .ok (.ldc 203, 2) := by decide +kernel
theorem dX10_draw_28 : decode cX10_draw 28 = .ok (.idiv, 1) := by decide +kernel
theorem dX10_draw_29 : decode cX10_draw 29 = .ok (.iload_n 1, 1) := by decide +kernel
theorem dX10_draw_30 : decode cX10_draw 30 = .ok (.irem, 1) := by decide +kernel
theorem dX10_draw_31 : decode cX10_draw 31 = .ok (.ireturn, 1) := by decide +kernel
theorem dX10_flood_0 : decode cX10_flood 0 = .ok (.aload_n 0, 1) := by decide +kernel
theorem dX10_flood_1 : decode cX10_flood 1 = .ok (.invokevirtual 137, 3) := by decide +kernel
theorem dX10_flood_4 : decode cX10_flood 4 = .ok (.ifCond .eq 6, 3) := by decide +kernel
theorem dX10_flood_7 : decode cX10_flood 7 = .ok (.bipush (-103), 2) := by decide +kernel
theorem dX10_flood_9 : decode cX10_flood 9 = .ok (.ireturn, 1) := by decide +kernel
theorem dX10_flood_10 : decode cX10_flood 10 = .ok (.iload_n 1, 1) := by decide +kernel
theorem dX10_flood_11 : decode cX10_flood 11 = .ok (.ifCond .ge 6, 3) := by decide +kernel
theorem dX10_flood_14 : decode cX10_flood 14 = .ok (.bipush (-102), 2) := by decide +kernel
theorem dX10_flood_16 : decode cX10_flood 16 = .ok (.ireturn, 1) := by decide +kernel
theorem dX10_flood_17 : decode cX10_flood 17 = .ok (.aload_n 0, 1) := by decide +kernel
theorem dX10_flood_18 : decode cX10_flood 18 = .ok (.iload_n 1, 1) := by decide +kernel
theorem dX10_flood_19 : decode cX10_flood 19 = .ok (.putfield 196, 3) := by decide +kernel
theorem dX10_flood_22 : decode cX10_flood 22 = .ok (.aload_n 0, 1) := by decide +kernel
theorem dX10_flood_23 : decode cX10_flood 23 = .ok (.getfield 105, 3) := by decide +kernel
theorem dX10_flood_26 : decode cX10_flood 26 = .ok (.iconst 1, 1) := by decide +kernel
theorem dX10_flood_27 : decode cX10_flood 27 = .ok (.isub, 1) := by decide +kernel
theorem dX10_flood_28 : decode cX10_flood 28 = .ok (.istore_n 2, 1) := by decide +kernel
theorem dX10_flood_29 : decode cX10_flood 29 = .ok (.iload_n 2, 1) := by decide +kernel
theorem dX10_flood_30 : decode cX10_flood 30 = .ok (.ifCond .le 69, 3) := by decide +kernel
theorem dX10_flood_33 : decode cX10_flood 33 = .ok (.aload_n 0, 1) := by decide +kernel
theorem dX10_flood_34 : decode cX10_flood 34 = .ok (.iload_n 2, 1) := by decide +kernel
theorem dX10_flood_35 : decode cX10_flood 35 = .ok (.iconst 1, 1) := by decide +kernel
theorem dX10_flood_36 : decode cX10_flood 36 = .ok (.iadd, 1) := by decide +kernel
theorem dX10_flood_37 : decode cX10_flood 37 = .ok (.invokevirtual 204, 3) := by decide +kernel
theorem dX10_flood_40 : decode cX10_flood 40 = .ok (.istore_n 3, 1) := by decide +kernel
theorem dX10_flood_41 : decode cX10_flood 41 = .ok (.aload_n 0, 1) := by decide +kernel
theorem dX10_flood_42 : decode cX10_flood 42 = .ok (.iload_n 2, 1) := by decide +kernel
theorem dX10_flood_43 : decode cX10_flood 43 = .ok (.invokevirtual 123, 3) := by decide +kernel
theorem dX10_flood_46 : decode cX10_flood 46 = .ok (.istore 4, 2) := by decide +kernel
theorem dX10_flood_48 : decode cX10_flood 48 = .ok (.aload_n 0, 1) := by decide +kernel
theorem dX10_flood_49 : decode cX10_flood 49 = .ok (.iload_n 3, 1) := by decide +kernel
theorem dX10_flood_50 : decode cX10_flood 50 = .ok (.invokevirtual 123, 3) := by decide +kernel
theorem dX10_flood_53 : decode cX10_flood 53 = .ok (.istore 5, 2) := by decide +kernel
theorem dX10_flood_55 : decode cX10_flood 55 = .ok (.aload_n 0, 1) := by decide +kernel
theorem dX10_flood_56 : decode cX10_flood 56 = .ok (.getfield 22, 3) := by decide +kernel
theorem dX10_flood_59 : decode cX10_flood 59 = .ok (.iload 4, 2) := by decide +kernel
theorem dX10_flood_61 : decode cX10_flood 61 = .ok (.iload_n 3, 1) := by decide +kernel
theorem dX10_flood_62 : decode cX10_flood 62 = .ok (.iastore, 1) := by decide +kernel
theorem dX10_flood_63 : decode cX10_flood 63 = .ok (.aload_n 0, 1) := by decide +kernel
theorem dX10_flood_64 : decode cX10_flood 64 = .ok (.getfield 22, 3) := by decide +kernel
theorem dX10_flood_67 : decode cX10_flood 67 = .ok (.iload 5, 2) := by decide +kernel
theorem dX10_flood_69 : decode cX10_flood 69 = .ok (.iload_n 2, 1) := by decide +kernel
theorem dX10_flood_70 : decode cX10_flood 70 = .ok (.iastore, 1) := by decide +kernel
theorem dX10_flood_71 : decode cX10_flood 71 = .ok (.aload_n 0, 1) := by decide +kernel
theorem dX10_flood_72 : decode cX10_flood 72 = .ok (.iconst 2, 1) := by decide +kernel
theorem dX10_flood_73 : decode cX10_flood 73 = .ok (.invokevirtual 204, 3) := by decide +kernel
theorem dX10_flood_76 : decode cX10_flood 76 = .ok (.iconst 1, 1) := by decide +kernel
theorem dX10_flood_77 : decode cX10_flood 77 = .ok (.if_icmp .ne 16, 3) := by decide +kernel
theorem dX10_flood_80 : decode cX10_flood 80 = .ok (.aload_n 0, 1) := by decide +kernel
theorem dX10_flood_81 : decode cX10_flood 81 = .ok (.getfield 16, 3) := by decide +kernel
theorem dX10_flood_84 : decode cX10_flood 84 = .ok (.aload_n 0, 1) := by decide +kernel
theorem dX10_flood_85 : decode cX10_flood 85 = .ok (.getfield 19, 3) := by decide +kernel
theorem dX10_flood_88 : decode cX10_flood 88 = .ok (.iload 5, 2) := by decide +kernel
theorem dX10_flood_90 : decode cX10_flood 90 = .ok (.invokestatic 126, 3) := by decide +kernel
theorem dX10_flood_93 : decode cX10_flood 93 = .ok (.iinc 2 (-1), 3) := by decide +kernel
theorem dX10_flood_96 : decode cX10_flood 96 = .ok (.goto (-67), 3) := by decide +kernel
theorem dX10_flood_99 : decode cX10_flood 99 = .ok (.aload_n 0, 1) := by decide +kernel
theorem dX10_flood_100 : decode cX10_flood 100 = .ok (.getfield 196, 3) := by decide +kernel
theorem dX10_flood_103 : decode cX10_flood 103 = .ok (.ireturn, 1) := by decide +kernel
theorem dX10_looksOf_0 : decode cX10_looksOf 0 = .ok (.iconst 0, 1) := by decide +kernel
theorem dX10_looksOf_1 : decode cX10_looksOf 1 = .ok (.istore_n 1, 1) := by decide +kernel
theorem dX10_looksOf_2 : decode cX10_looksOf 2 = .ok (.iconst 0, 1) := by decide +kernel
theorem dX10_looksOf_3 : decode cX10_looksOf 3 = .ok (.istore_n 2, 1) := by decide +kernel
theorem dX10_looksOf_4 : decode cX10_looksOf 4 = .ok (.iload_n 2, 1) := by decide +kernel
theorem dX10_looksOf_5 : decode cX10_looksOf 5 = .ok (.iconst 5, 1) := by decide +kernel
theorem dX10_looksOf_6 : decode cX10_looksOf 6 = .ok (.if_icmp .ge 62, 3) := by decide +kernel
theorem dX10_looksOf_9 : decode cX10_looksOf 9 = .ok (.iconst 0, 1) := by decide +kernel
theorem dX10_looksOf_10 : decode cX10_looksOf 10 = .ok (.istore_n 3, 1) := by decide +kernel
theorem dX10_looksOf_11 : decode cX10_looksOf 11 = .ok (.iconst 0, 1) := by decide +kernel
theorem dX10_looksOf_12 : decode cX10_looksOf 12 = .ok (.istore 4, 2) := by decide +kernel
theorem dX10_looksOf_14 : decode cX10_looksOf 14 = .ok (.iload 4, 2) := by decide +kernel
theorem dX10_looksOf_16 : decode cX10_looksOf 16 = .ok (.aload_n 0, 1) := by decide +kernel
theorem dX10_looksOf_17 : decode cX10_looksOf 17 = .ok (.getfield 105, 3) := by decide +kernel
theorem dX10_looksOf_20 : decode cX10_looksOf 20 = .ok (.if_icmp .ge 28, 3) := by decide +kernel
theorem dX10_looksOf_23 : decode cX10_looksOf 23 = .ok (.iload_n 3, 1) := by decide +kernel
theorem dX10_looksOf_24 : decode cX10_looksOf 24 = .ok (.aload_n 0, 1) := by decide +kernel
theorem dX10_looksOf_25 : decode cX10_looksOf 25 = .ok (.getfield 13, 3) := by decide +kernel
theorem dX10_looksOf_28 : decode cX10_looksOf 28 = .ok (.iload 4, 2) := by decide +kernel
theorem dX10_looksOf_30 : decode cX10_looksOf 30 = .ok (.iaload, 1) := by decide +kernel
theorem dX10_looksOf_31 : decode cX10_looksOf 31 = .ok (.iload_n 2, 1) := by decide +kernel
theorem dX10_looksOf_32 : decode cX10_looksOf 32 = .ok (.if_icmp .ne 7, 3) := by decide +kernel
theorem dX10_looksOf_35 : decode cX10_looksOf 35 = .ok (.iconst 1, 1) := by decide +kernel
theorem dX10_looksOf_36 : decode cX10_looksOf 36 = .ok (.goto 4, 3) := by decide +kernel
theorem dX10_looksOf_39 : decode cX10_looksOf 39 = .ok (.iconst 0, 1) := by decide +kernel
theorem dX10_looksOf_40 : decode cX10_looksOf 40 = .ok (.iadd, 1) := by decide +kernel
theorem dX10_looksOf_41 : decode cX10_looksOf 41 = .ok (.istore_n 3, 1) := by decide +kernel
theorem dX10_looksOf_42 : decode cX10_looksOf 42 = .ok (.iinc 4 1, 3) := by decide +kernel
theorem dX10_looksOf_45 : decode cX10_looksOf 45 = .ok (.goto (-31), 3) := by decide +kernel
theorem dX10_looksOf_48 : decode cX10_looksOf 48 = .ok (.iload_n 1, 1) := by decide +kernel
theorem dX10_looksOf_49 : decode cX10_looksOf 49 = .ok (.iload_n 3, 1) := by decide +kernel
theorem dX10_looksOf_50 : decode cX10_looksOf 50 = .ok (.ifCond .le 9, 3) := by decide +kernel
theorem dX10_looksOf_53 : decode cX10_looksOf 53 = .ok (.iload_n 3, 1) := by decide +kernel
theorem dX10_looksOf_54 : decode cX10_looksOf 54 = .ok (.iconst 1, 1) := by decide +kernel
theorem dX10_looksOf_55 : decode cX10_looksOf 55 = .ok (.isub, 1) := by decide +kernel
theorem dX10_looksOf_56 : decode cX10_looksOf 56 = .ok (.goto 4, 3) := by decide +kernel
theorem dX10_looksOf_59 : decode cX10_looksOf 59 = .ok (.iconst 0, 1) := by decide +kernel
theorem dX10_looksOf_60 : decode cX10_looksOf 60 = .ok (.iadd, 1) := by decide +kernel
theorem dX10_looksOf_61 : decode cX10_looksOf 61 = .ok (.istore_n 1, 1) := by decide +kernel
theorem dX10_looksOf_62 : decode cX10_looksOf 62 = .ok (.iinc 2 1, 3) := by decide +kernel
theorem dX10_looksOf_65 : decode cX10_looksOf 65 = .ok (.goto (-61), 3) := by decide +kernel
theorem dX10_looksOf_68 : decode cX10_looksOf 68 = .ok (.iload_n 1, 1) := by decide +kernel
theorem dX10_looksOf_69 : decode cX10_looksOf 69 = .ok (.ireturn, 1) := by decide +kernel
theorem dX10_looks_0 : decode cX10_looks 0 = .ok (.aload_n 0, 1) := by decide +kernel
theorem dX10_looks_1 : decode cX10_looks 1 = .ok (.invokevirtual 137, 3) := by decide +kernel
theorem dX10_looks_4 : decode cX10_looks 4 = .ok (.ifCond .eq 8, 3) := by decide +kernel
theorem dX10_looks_7 : decode cX10_looks 7 = .ok (.bipush (-103), 2) := by decide +kernel
theorem dX10_looks_9 : decode cX10_looks 9 = .ok (.goto 7, 3) := by decide +kernel
theorem dX10_looks_12 : decode cX10_looks 12 = .ok (.aload_n 0, 1) := by decide +kernel
theorem dX10_looks_13 : decode cX10_looks 13 = .ok (.invokevirtual 207, 3) := by decide +kernel
theorem dX10_looks_16 : decode cX10_looks 16 = .ok (.ireturn, 1) := by decide +kernel
theorem dX10_was_0 : decode cX10_was 0 = .ok (.aload_n 0, 1) := by decide +kernel
theorem dX10_was_1 : decode cX10_was 1 = .ok (.iload_n 1, 1) := by decide +kernel
theorem dX10_was_2 : decode cX10_was 2 = .ok (.invokevirtual 112, 3) := by decide +kernel
theorem dX10_was_5 : decode cX10_was 5 = .ok (.ifCond .ne 6, 3) := by decide +kernel
theorem dX10_was_8 : decode cX10_was 8 = .ok (.bipush (-101), 2) := by decide +kernel
theorem dX10_was_10 : decode cX10_was 10 = .ok (.ireturn, 1) := by decide +kernel
theorem dX10_was_11 : decode cX10_was 11 = .ok (.iload_n 2, 1) := by decide +kernel
theorem dX10_was_12 : decode cX10_was 12 = .ok (.i2l, 1) := by decide +kernel
theorem dX10_was_13 : decode cX10_was 13 = .ok (.ldc2_w 210, 3) := by decide +kernel
theorem dX10_was_16 : decode cX10_was 16 = .ok (.ldc2_w 110, 3) := by decide +kernel
theorem dX10_was_19 : decode cX10_was 19 = .ok (.invokestatic 68, 3) := by decide +kernel
theorem dX10_was_22 : decode cX10_was 22 = .ok (.ifCond .ne 6, 3) := by decide +kernel
theorem dX10_was_25 : decode cX10_was 25 = .ok (.bipush (-102), 2) := by decide +kernel
theorem dX10_was_27 : decode cX10_was 27 = .ok (.ireturn, 1) := by decide +kernel
theorem dX10_was_28 : decode cX10_was 28 = .ok (.aload_n 0, 1) := by decide +kernel
theorem dX10_was_29 : decode cX10_was 29 = .ok (.getfield 25, 3) := by decide +kernel
theorem dX10_was_32 : decode cX10_was 32 = .ok (.iload_n 1, 1) := by decide +kernel
theorem dX10_was_33 : decode cX10_was 33 = .ok (.iaload, 1) := by decide +kernel
theorem dX10_was_34 : decode cX10_was 34 = .ok (.istore_n 3, 1) := by decide +kernel
theorem dX10_was_35 : decode cX10_was 35 = .ok (.aload_n 0, 1) := by decide +kernel
theorem dX10_was_36 : decode cX10_was 36 = .ok (.getfield 25, 3) := by decide +kernel
theorem dX10_was_39 : decode cX10_was 39 = .ok (.iload_n 1, 1) := by decide +kernel
theorem dX10_was_40 : decode cX10_was 40 = .ok (.iload_n 2, 1) := by decide +kernel
theorem dX10_was_41 : decode cX10_was 41 = .ok (.iastore, 1) := by decide +kernel
theorem dX10_was_42 : decode cX10_was 42 = .ok (.iload_n 3, 1) := by decide +kernel
theorem dX10_was_43 : decode cX10_was 43 = .ok (.ireturn, 1) := by decide +kernel
theorem dX10_isLast_0 : decode cX10_isLast 0 = .ok (.iconst 1, 1) := by decide +kernel
theorem dX10_isLast_1 : decode cX10_isLast 1 = .ok (.istore_n 1, 1) := by decide +kernel
theorem dX10_isLast_2 : decode cX10_isLast 2 = .ok (.iconst 0, 1) := by decide +kernel
theorem dX10_isLast_3 : decode cX10_isLast 3 = .ok (.istore_n 2, 1) := by decide +kernel
theorem dX10_isLast_4 : decode cX10_isLast 4 = .ok (.iload_n 2, 1) := by decide +kernel
theorem dX10_isLast_5 : decode cX10_isLast 5 = .ok (.aload_n 0, 1) := by decide +kernel
theorem dX10_isLast_6 : decode cX10_isLast 6 = .ok (.getfield 105, 3) := by decide +kernel
theorem dX10_isLast_9 : decode cX10_isLast 9 = .ok (.if_icmp .ge 66, 3) := by decide +kernel
theorem dX10_isLast_12 : decode cX10_isLast 12 = .ok (.aload_n 0, 1) := by decide +kernel
theorem dX10_isLast_13 : decode cX10_isLast 13 = .ok (.getfield 31, 3) := by decide +kernel
theorem dX10_isLast_16 : decode cX10_isLast 16 = .ok (.iload_n 2, 1) := by decide +kernel
theorem dX10_isLast_17 : decode cX10_isLast 17 = .ok (.iaload, 1) := by decide +kernel
theorem dX10_isLast_18 : decode cX10_isLast 18 = .ok (.istore_n 3, 1) := by decide +kernel
theorem dX10_isLast_19 : decode cX10_isLast 19 = .ok (.iload_n 1, 1) := by decide +kernel
theorem dX10_isLast_20 : decode cX10_isLast 20 = .ok (.ifCond .eq 47, 3) := by decide +kernel
theorem dX10_isLast_23 : decode cX10_isLast 23 = .ok (.aload_n 0, 1) := by decide +kernel
theorem dX10_isLast_24 : decode cX10_isLast 24 = .ok (.getfield 25, 3) := by decide +kernel
theorem dX10_isLast_27 : decode cX10_isLast 27 = .ok (.iload_n 3, 1) := by decide +kernel
theorem dX10_isLast_28 : decode cX10_isLast 28 = .ok (.iaload, 1) := by decide +kernel
theorem dX10_isLast_29 : decode cX10_isLast 29 = .ok (.iconst (-1), 1) := by decide +kernel
theorem dX10_isLast_30 : decode cX10_isLast 30 = .ok (.if_icmp .eq 33, 3) := by decide +kernel
theorem dX10_isLast_33 : decode cX10_isLast 33 = .ok (.aload_n 0, 1) := by decide +kernel
theorem dX10_isLast_34 : decode cX10_isLast 34 = .ok (.getfield 13, 3) := by decide +kernel
theorem dX10_isLast_37 : decode cX10_isLast 37 = .ok (.iload_n 3, 1) := by decide +kernel
theorem dX10_isLast_38 : decode cX10_isLast 38 = .ok (.iaload, 1) := by decide +kernel
theorem dX10_isLast_39 : decode cX10_isLast 39 = .ok (.aload_n 0, 1) := by decide +kernel
theorem dX10_isLast_40 : decode cX10_isLast 40 = .ok (.getfield 25, 3) := by decide +kernel
theorem dX10_isLast_43 : decode cX10_isLast 43 = .ok (.iload_n 3, 1) := by decide +kernel
theorem dX10_isLast_44 : decode cX10_isLast 44 = .ok (.iaload, 1) := by decide +kernel
theorem dX10_isLast_45 : decode cX10_isLast 45 = .ok (.aload_n 0, 1) := by decide +kernel
theorem dX10_isLast_46 : decode cX10_isLast 46 = .ok (.getfield 28, 3) := by decide +kernel
theorem dX10_isLast_49 : decode cX10_isLast 49 = .ok (.iload_n 2, 1) := by decide +kernel
theorem dX10_isLast_50 : decode cX10_isLast 50 = .ok (.iaload, 1) := by decide +kernel
theorem dX10_isLast_51 : decode cX10_isLast 51 = .ok (.invokestatic 133, 3) := by decide +kernel
theorem dX10_isLast_54 : decode cX10_isLast 54 = .ok (.aload_n 0, 1) := by decide +kernel
theorem dX10_isLast_55 : decode cX10_isLast 55 = .ok (.getfield 16, 3) := by decide +kernel
theorem dX10_isLast_58 : decode cX10_isLast 58 = .ok (.iload_n 3, 1) := by decide +kernel
theorem dX10_isLast_59 : decode cX10_isLast 59 = .ok (.iaload, 1) := by decide +kernel
theorem dX10_isLast_60 : decode cX10_isLast 60 = .ok (.if_icmp .ne 7, 3) := by decide +kernel
theorem dX10_isLast_63 : decode cX10_isLast 63 = .ok (.iconst 1, 1) := by decide +kernel
theorem dX10_isLast_64 : decode cX10_isLast 64 = .ok (.goto 4, 3) := by decide +kernel
theorem dX10_isLast_67 : decode cX10_isLast 67 = .ok (.iconst 0, 1) := by decide +kernel
theorem dX10_isLast_68 : decode cX10_isLast 68 = .ok (.istore_n 1, 1) := by decide +kernel
theorem dX10_isLast_69 : decode cX10_isLast 69 = .ok (.iinc 2 1, 3) := by decide +kernel
theorem dX10_isLast_72 : decode cX10_isLast 72 = .ok (.goto (-68), 3) := by decide +kernel
theorem dX10_isLast_75 : decode cX10_isLast 75 = .ok (.iload_n 1, 1) := by decide +kernel
theorem dX10_isLast_76 : decode cX10_isLast 76 = .ok (.ireturn, 1) := by decide +kernel
theorem dX10_last_0 : decode cX10_last 0 = .ok (.aload_n 0, 1) := by decide +kernel
theorem dX10_last_1 : decode cX10_last 1 = .ok (.invokevirtual 137, 3) := by decide +kernel
theorem dX10_last_4 : decode cX10_last 4 = .ok (.ifCond .eq 6, 3) := by decide +kernel
theorem dX10_last_7 : decode cX10_last 7 = .ok (.bipush (-103), 2) := by decide +kernel
theorem dX10_last_9 : decode cX10_last 9 = .ok (.ireturn, 1) := by decide +kernel
theorem dX10_last_10 : decode cX10_last 10 = .ok (.iload_n 1, 1) := by decide +kernel
theorem dX10_last_11 : decode cX10_last 11 = .ok (.i2l, 1) := by decide +kernel
theorem dX10_last_12 : decode cX10_last 12 = .ok (.lconst 0, 1) := by decide +kernel
theorem dX10_last_13 : decode cX10_last 13 = .ok (.lconst 1, 1) := by decide +kernel
theorem dX10_last_14 : decode cX10_last 14 = .ok (.invokestatic 68, 3) := by decide +kernel
theorem dX10_last_17 : decode cX10_last 17 = .ok (.ifCond .ne 6, 3) := by decide +kernel
theorem dX10_last_20 : decode cX10_last 20 = .ok (.bipush (-102), 2) := by decide +kernel
theorem dX10_last_22 : decode cX10_last 22 = .ok (.ireturn, 1) := by decide +kernel
theorem dX10_last_23 : decode cX10_last 23 = .ok (.aload_n 0, 1) := by decide +kernel
theorem dX10_last_24 : decode cX10_last 24 = .ok (.getfield 212, 3) := by decide +kernel
theorem dX10_last_27 : decode cX10_last 27 = .ok (.bipush 40, 2) := by decide +kernel
theorem dX10_last_29 : decode cX10_last 29 = .ok (.if_icmp .ne 6, 3) := by decide +kernel
theorem dX10_last_32 : decode cX10_last 32 = .ok (.bipush (-103), 2) := by decide +kernel
theorem dX10_last_34 : decode cX10_last 34 = .ok (.ireturn, 1) := by decide +kernel
theorem dX10_last_35 : decode cX10_last 35 = .ok (.aload_n 0, 1) := by decide +kernel
theorem dX10_last_36 : decode cX10_last 36 = .ok (.dup, 1) := by decide +kernel
theorem dX10_last_37 : decode cX10_last 37 = .ok (.getfield 212, 3) := by decide +kernel
theorem dX10_last_40 : decode cX10_last 40 = .ok (.iconst 1, 1) := by decide +kernel
theorem dX10_last_41 : decode cX10_last 41 = .ok (.iadd, 1) := by decide +kernel
theorem dX10_last_42 : decode cX10_last 42 = .ok (.putfield 212, 3) := by decide +kernel
theorem dX10_last_45 : decode cX10_last 45 = .ok (.iconst 0, 1) := by decide +kernel
theorem dX10_last_46 : decode cX10_last 46 = .ok (.istore_n 2, 1) := by decide +kernel
theorem dX10_last_47 : decode cX10_last 47 = .ok (.iconst (-1), 1) := by decide +kernel
theorem dX10_last_48 : decode cX10_last 48 = .ok (.istore_n 3, 1) := by decide +kernel
theorem dX10_last_49 : decode cX10_last 49 = .ok (.iconst 1, 1) := by decide +kernel
theorem dX10_last_50 : decode cX10_last 50 = .ok (.istore 4, 2) := by decide +kernel
theorem dX10_last_52 : decode cX10_last 52 = .ok (.aload_n 0, 1) := by decide +kernel
theorem dX10_last_53 : decode cX10_last 53 = .ok (.invokevirtual 169, 3) := by decide +kernel
theorem dX10_last_56 : decode cX10_last 56 = .ok (.iload 4, 2) := by decide +kernel
theorem dX10_last_58 : decode cX10_last 58 = .ok (.ifCond .eq 35, 3) := by decide +kernel
theorem dX10_last_61 : decode cX10_last 61 = .ok (.aload_n 0, 1) := by decide +kernel
theorem dX10_last_62 : decode cX10_last 62 = .ok (.invokevirtual 215, 3) := by decide +kernel
theorem dX10_last_65 : decode cX10_last 65 = .ok (.ifCond .eq 19, 3) := by decide +kernel
theorem dX10_last_68 : decode cX10_last 68 = .ok (.iload_n 2, 1) := by decide +kernel
theorem dX10_last_69 : decode cX10_last 69 = .ok (.ifCond .ne 10, 3) := by decide +kernel
theorem dX10_last_72 : decode cX10_last 72 = .ok (.aload_n 0, 1) := by decide +kernel
theorem dX10_last_73 : decode cX10_last 73 = .ok (.invokevirtual 176, 3) := by decide +kernel
theorem dX10_last_76 : decode cX10_last 76 = .ok (.goto 4, 3) := by decide +kernel
theorem dX10_last_79 : decode cX10_last 79 = .ok (.iload_n 3, 1) := by decide +kernel
theorem dX10_last_80 : decode cX10_last 80 = .ok (.istore_n 3, 1) := by decide +kernel
theorem dX10_last_81 : decode cX10_last 81 = .ok (.iinc 2 1, 3) := by decide +kernel
theorem dX10_last_84 : decode cX10_last 84 = .ok (.aload_n 0, 1) := by decide +kernel
theorem dX10_last_85 : decode cX10_last 85 = .ok (.invokevirtual 179, 3) := by decide +kernel
theorem dX10_last_88 : decode cX10_last 88 = .ok (.istore 4, 2) := by decide +kernel
theorem dX10_last_90 : decode cX10_last 90 = .ok (.goto (-34), 3) := by decide +kernel
theorem dX10_last_93 : decode cX10_last 93 = .ok (.iload_n 1, 1) := by decide +kernel
theorem dX10_last_94 : decode cX10_last 94 = .ok (.ifCond .ne 7, 3) := by decide +kernel
theorem dX10_last_97 : decode cX10_last 97 = .ok (.iload_n 2, 1) := by decide +kernel
theorem dX10_last_98 : decode cX10_last 98 = .ok (.goto 4, 3) := by decide +kernel
theorem dX10_last_101 : decode cX10_last 101 = .ok (.iload_n 3, 1) := by decide +kernel
theorem dX10_last_102 : decode cX10_last 102 = .ok (.ireturn, 1) := by decide +kernel
theorem dX10_sure_0 : decode cX10_sure 0 = .ok (.aload_n 0, 1) := by decide +kernel
theorem dX10_sure_1 : decode cX10_sure 1 = .ok (.iload_n 1, 1) := by decide +kernel
theorem dX10_sure_2 : decode cX10_sure 2 = .ok (.invokevirtual 112, 3) := by decide +kernel
theorem dX10_sure_5 : decode cX10_sure 5 = .ok (.ifCond .ne 6, 3) := by decide +kernel
theorem dX10_sure_8 : decode cX10_sure 8 = .ok (.bipush (-101), 2) := by decide +kernel
theorem dX10_sure_10 : decode cX10_sure 10 = .ok (.ireturn, 1) := by decide +kernel
theorem dX10_sure_11 : decode cX10_sure 11 = .ok (.aload_n 0, 1) := by decide +kernel
theorem dX10_sure_12 : decode cX10_sure 12 = .ok (.invokevirtual 137, 3) := by decide +kernel
theorem dX10_sure_15 : decode cX10_sure 15 = .ok (.ifCond .ne 12, 3) := by decide +kernel
theorem dX10_sure_18 : decode cX10_sure 18 = .ok (.aload_n 0, 1) := by decide +kernel
theorem dX10_sure_19 : decode cX10_sure 19 = .ok (.getfield 212, 3) := by decide +kernel
theorem dX10_sure_22 : decode cX10_sure 22 = .ok (.bipush 40, 2) := by decide +kernel
theorem dX10_sure_24 : decode cX10_sure 24 = .ok (.if_icmp .ne 6, 3) := by decide +kernel
theorem dX10_sure_27 : decode cX10_sure 27 = .ok (.bipush (-103), 2) := by decide +kernel
theorem dX10_sure_29 : decode cX10_sure 29 = .ok (.ireturn, 1) := by decide +kernel
theorem dX10_sure_30 : decode cX10_sure 30 = .ok (.aload_n 0, 1) := by decide +kernel
theorem dX10_sure_31 : decode cX10_sure 31 = .ok (.dup, 1) := by decide +kernel
theorem dX10_sure_32 : decode cX10_sure 32 = .ok (.getfield 212, 3) := by decide +kernel
theorem dX10_sure_35 : decode cX10_sure 35 = .ok (.iconst 1, 1) := by decide +kernel
theorem dX10_sure_36 : decode cX10_sure 36 = .ok (.iadd, 1) := by decide +kernel
theorem dX10_sure_37 : decode cX10_sure 37 = .ok (.putfield 212, 3) := by decide +kernel
theorem dX10_sure_40 : decode cX10_sure 40 = .ok (.iconst 0, 1) := by decide +kernel
theorem dX10_sure_41 : decode cX10_sure 41 = .ok (.istore_n 2, 1) := by decide +kernel
theorem dX10_sure_42 : decode cX10_sure 42 = .ok (.iconst 1, 1) := by decide +kernel
theorem dX10_sure_43 : decode cX10_sure 43 = .ok (.istore_n 3, 1) := by decide +kernel
theorem dX10_sure_44 : decode cX10_sure 44 = .ok (.aload_n 0, 1) := by decide +kernel
theorem dX10_sure_45 : decode cX10_sure 45 = .ok (.invokevirtual 169, 3) := by decide +kernel
theorem dX10_sure_48 : decode cX10_sure 48 = .ok (.iload_n 3, 1) := by decide +kernel
theorem dX10_sure_49 : decode cX10_sure 49 = .ok (.ifCond .eq 58, 3) := by decide +kernel
theorem dX10_sure_52 : decode cX10_sure 52 = .ok (.aload_n 0, 1) := by decide +kernel
theorem dX10_sure_53 : decode cX10_sure 53 = .ok (.invokevirtual 215, 3) := by decide +kernel
theorem dX10_sure_56 : decode cX10_sure 56 = .ok (.ifCond .eq 43, 3) := by decide +kernel
theorem dX10_sure_59 : decode cX10_sure 59 = .ok (.iconst 0, 1) := by decide +kernel
theorem dX10_sure_60 : decode cX10_sure 60 = .ok (.istore 4, 2) := by decide +kernel
theorem dX10_sure_62 : decode cX10_sure 62 = .ok (.iload 4, 2) := by decide +kernel
theorem dX10_sure_64 : decode cX10_sure 64 = .ok (.aload_n 0, 1) := by decide +kernel
theorem dX10_sure_65 : decode cX10_sure 65 = .ok (.getfield 105, 3) := by decide +kernel
theorem dX10_sure_68 : decode cX10_sure 68 = .ok (.if_icmp .ge 31, 3) := by decide +kernel
theorem dX10_sure_71 : decode cX10_sure 71 = .ok (.iload_n 2, 1) := by decide +kernel
theorem dX10_sure_72 : decode cX10_sure 72 = .ok (.aload_n 0, 1) := by decide +kernel
theorem dX10_sure_73 : decode cX10_sure 73 = .ok (.getfield 31, 3) := by decide +kernel
theorem dX10_sure_76 : decode cX10_sure 76 = .ok (.iload 4, 2) := by decide +kernel
theorem dX10_sure_78 : decode cX10_sure 78 = .ok (.iaload, 1) := by decide +kernel
theorem dX10_sure_79 : decode cX10_sure 79 = .ok (.iload_n 1, 1) := by decide +kernel
theorem dX10_sure_80 : decode cX10_sure 80 = .ok (.if_icmp .ne 10, 3) := by decide +kernel
theorem dX10_sure_83 : decode cX10_sure 83 = .ok (.iconst 1, 1) := by decide +kernel
theorem dX10_sure_84 : decode cX10_sure 84 = .ok (.iload 4, 2) := by decide +kernel
theorem dX10_sure_86 : decode cX10_sure 86 = .ok (.ishl, 1) := by decide +kernel
theorem dX10_sure_87 : decode cX10_sure 87 = .ok (.goto 4, 3) := by decide +kernel
theorem dX10_sure_90 : decode cX10_sure 90 = .ok (.iconst 0, 1) := by decide +kernel
theorem dX10_sure_91 : decode cX10_sure 91 = .ok (.ior, 1) := by decide +kernel
theorem dX10_sure_92 : decode cX10_sure 92 = .ok (.istore_n 2, 1) := by decide +kernel
theorem dX10_sure_93 : decode cX10_sure 93 = .ok (.iinc 4 1, 3) := by decide +kernel
theorem dX10_sure_96 : decode cX10_sure 96 = .ok (.goto (-34), 3) := by decide +kernel
theorem dX10_sure_99 : decode cX10_sure 99 = .ok (.aload_n 0, 1) := by decide +kernel
theorem dX10_sure_100 : decode cX10_sure 100 = .ok (.invokevirtual 179, 3) := by decide +kernel
theorem dX10_sure_103 : decode cX10_sure 103 = .ok (.istore_n 3, 1) := by decide +kernel
theorem dX10_sure_104 : decode cX10_sure 104 = .ok (.goto (-56), 3) := by decide +kernel
theorem dX10_sure_107 : decode cX10_sure 107 = .ok (.iconst 0, 1) := by decide +kernel
theorem dX10_sure_108 : decode cX10_sure 108 = .ok (.istore 4, 2) := by decide +kernel
theorem dX10_sure_110 : decode cX10_sure 110 = .ok (.iload 4, 2) := by decide +kernel
theorem dX10_sure_112 : decode cX10_sure 112 = .ok (.aload_n 0, 1) := by decide +kernel
theorem dX10_sure_113 : decode cX10_sure 113 = .ok (.getfield 105, 3) := by decide +kernel
theorem dX10_sure_116 : decode cX10_sure 116 = .ok (.if_icmp .ge 20, 3) := by decide +kernel
theorem dX10_sure_119 : decode cX10_sure 119 = .ok (.iload_n 2, 1) := by decide +kernel
theorem dX10_sure_120 : decode cX10_sure 120 = .ok (.iconst 1, 1) := by decide +kernel
theorem dX10_sure_121 : decode cX10_sure 121 = .ok (.iload 4, 2) := by decide +kernel
theorem dX10_sure_123 : decode cX10_sure 123 = .ok (.ishl, 1) := by decide +kernel
theorem dX10_sure_124 : decode cX10_sure 124 = .ok (.if_icmp .ne 6, 3) := by decide +kernel
theorem dX10_sure_127 : decode cX10_sure 127 = .ok (.iload 4, 2) := by decide +kernel
theorem dX10_sure_129 : decode cX10_sure 129 = .ok (.ireturn, 1) := by decide +kernel
theorem dX10_sure_130 : decode cX10_sure 130 = .ok (.iinc 4 1, 3) := by decide +kernel
theorem dX10_sure_133 : decode cX10_sure 133 = .ok (.goto (-23), 3) := by decide +kernel
theorem dX10_sure_136 : decode cX10_sure 136 = .ok (.iconst (-1), 1) := by decide +kernel
theorem dX10_sure_137 : decode cX10_sure 137 = .ok (.ireturn, 1) := by decide +kernel
theorem dX10_oneSpring_0 : decode cX10_oneSpring 0 = .ok (.aload_n 0, 1) := by decide +kernel
theorem dX10_oneSpring_1 : decode cX10_oneSpring 1 = .ok (.aload_n 0, 1) := by decide +kernel
theorem dX10_oneSpring_2 : decode cX10_oneSpring 2 = .ok (.getfield 34, 3) := by decide +kernel
theorem dX10_oneSpring_5 : decode cX10_oneSpring 5 = .ok (.aload_n 0, 1) := by decide +kernel
theorem dX10_oneSpring_6 : decode cX10_oneSpring 6 = .ok (.getfield 37, 3) := by decide +kernel
theorem dX10_oneSpring_9 : decode cX10_oneSpring 9 = .ok (.aload_n 0, 1) := by decide +kernel
theorem dX10_oneSpring_10 : decode cX10_oneSpring 10 = .ok (.getfield 40, 3) := by decide +kernel
theorem dX10_oneSpring_13 : decode cX10_oneSpring 13 = .ok (.invokevirtual 185, 3) := by decide +kernel
theorem dX10_oneSpring_16 : decode cX10_oneSpring 16 = .ok (.istore_n 1, 1) := by decide +kernel
theorem dX10_oneSpring_17 : decode cX10_oneSpring 17 = .ok (.iload_n 1, 1) := by decide +kernel
theorem dX10_oneSpring_18 : decode cX10_oneSpring 18 = .ok (.ifCond .le 30, 3) := by decide +kernel
theorem dX10_oneSpring_21 : decode cX10_oneSpring 21 = .ok (.aload_n 0, 1) := by decide +kernel
theorem dX10_oneSpring_22 : decode cX10_oneSpring 22 = .ok (.aload_n 0, 1) := by decide +kernel
theorem dX10_oneSpring_23 : decode cX10_oneSpring 23 = .ok (.getfield 162, 3) := by decide +kernel
theorem dX10_oneSpring_26 : decode cX10_oneSpring 26 = .ok (.invokevirtual 141, 3) := by decide +kernel
theorem dX10_oneSpring_29 : decode cX10_oneSpring 29 = .ok (.ifCond .eq 19, 3) := by decide +kernel
theorem dX10_oneSpring_32 : decode cX10_oneSpring 32 = .ok (.aload_n 0, 1) := by decide +kernel
theorem dX10_oneSpring_33 : decode cX10_oneSpring 33 = .ok (.aload_n 0, 1) := by decide +kernel
theorem dX10_oneSpring_34 : decode cX10_oneSpring 34 = .ok (.getfield 34, 3) := by decide +kernel
theorem dX10_oneSpring_37 : decode cX10_oneSpring 37 = .ok (.aload_n 0, 1) := by decide +kernel
theorem dX10_oneSpring_38 : decode cX10_oneSpring 38 = .ok (.getfield 37, 3) := by decide +kernel
theorem dX10_oneSpring_41 : decode cX10_oneSpring 41 = .ok (.aload_n 0, 1) := by decide +kernel
theorem dX10_oneSpring_42 : decode cX10_oneSpring 42 = .ok (.getfield 40, 3) := by decide +kernel
theorem dX10_oneSpring_45 : decode cX10_oneSpring 45 = .ok (.invokevirtual 148, 3) := by decide +kernel
theorem dX10_oneSpring_48 : decode cX10_oneSpring 48 = .ok (.aload_n 0, 1) := by decide +kernel
theorem dX10_oneSpring_49 : decode cX10_oneSpring 49 = .ok (.aload_n 0, 1) := by decide +kernel
theorem dX10_oneSpring_50 : decode cX10_oneSpring 50 = .ok (.getfield 34, 3) := by decide +kernel
theorem dX10_oneSpring_53 : decode cX10_oneSpring 53 = .ok (.aload_n 0, 1) := by decide +kernel
theorem dX10_oneSpring_54 : decode cX10_oneSpring 54 = .ok (.getfield 40, 3) := by decide +kernel
theorem dX10_oneSpring_57 : decode cX10_oneSpring 57 = .ok (.invokevirtual 158, 3) := by decide +kernel
theorem dX10_oneSpring_60 : decode cX10_oneSpring 60 = .ok (.return_, 1) := by decide +kernel
theorem dX10_burn_0 : decode cX10_burn 0 = .ok (.iconst 0, 1) := by decide +kernel
theorem dX10_burn_1 : decode cX10_burn 1 = .ok (.istore_n 1, 1) := by decide +kernel
theorem dX10_burn_2 : decode cX10_burn 2 = .ok (.iconst 0, 1) := by decide +kernel
theorem dX10_burn_3 : decode cX10_burn 3 = .ok (.istore_n 2, 1) := by decide +kernel
theorem dX10_burn_4 : decode cX10_burn 4 = .ok (.iload_n 2, 1) := by decide +kernel
theorem dX10_burn_5 : decode cX10_burn 5 = .ok (.aload_n 0, 1) := by decide +kernel
theorem dX10_burn_6 : decode cX10_burn 6 = .ok (.getfield 105, 3) := by decide +kernel
theorem dX10_burn_9 : decode cX10_burn 9 = .ok (.if_icmp .ge 58, 3) := by decide +kernel
theorem dX10_burn_12 : decode cX10_burn 12 = .ok (.aload_n 0, 1) := by decide +kernel
theorem dX10_burn_13 : decode cX10_burn 13 = .ok (.getfield 34, 3) := by decide +kernel
theorem dX10_burn_16 : decode cX10_burn 16 = .ok (.iload_n 2, 1) := by decide +kernel
theorem dX10_burn_17 : decode cX10_burn 17 = .ok (.iaload, 1) := by decide +kernel
theorem dX10_burn_18 : decode cX10_burn 18 = .ok (.bipush 100, 2) := by decide +kernel
theorem dX10_burn_20 : decode cX10_burn 20 = .ok (.aload_n 0, 1) := by decide +kernel
theorem dX10_burn_21 : decode cX10_burn 21 = .ok (.getfield 50, 3) := by decide +kernel
theorem dX10_burn_24 : decode cX10_burn 24 = .ok (.imul, 1) := by decide +kernel
theorem dX10_burn_25 : decode cX10_burn 25 = .ok (.if_icmp .lt 36, 3) := by decide +kernel
theorem dX10_burn_28 : decode cX10_burn 28 = .ok (.aload_n 0, 1) := by decide +kernel
theorem dX10_burn_29 : decode cX10_burn 29 = .ok (.getfield 37, 3) := by decide +kernel
theorem dX10_burn_32 : decode cX10_burn 32 = .ok (.iload_n 2, 1) := by decide +kernel
theorem dX10_burn_33 : decode cX10_burn 33 = .ok (.iaload, 1) := by decide +kernel
theorem dX10_burn_34 : decode cX10_burn 34 = .ok (.bipush 100, 2) := by decide +kernel
theorem dX10_burn_36 : decode cX10_burn 36 = .ok (.aload_n 0, 1) := by decide +kernel
theorem dX10_burn_37 : decode cX10_burn 37 = .ok (.getfield 50, 3) := by decide +kernel
theorem dX10_burn_40 : decode cX10_burn 40 = .ok (.imul, 1) := by decide +kernel
theorem dX10_burn_41 : decode cX10_burn 41 = .ok (.if_icmp .lt 20, 3) := by decide +kernel
theorem dX10_burn_44 : decode cX10_burn 44 = .ok (.aload_n 0, 1) := by decide +kernel
theorem dX10_burn_45 : decode cX10_burn 45 = .ok (.getfield 34, 3) := by decide +kernel
theorem dX10_burn_48 : decode cX10_burn 48 = .ok (.iload_n 2, 1) := by decide +kernel
theorem dX10_burn_49 : decode cX10_burn 49 = .ok (.iconst 0, 1) := by decide +kernel
theorem dX10_burn_50 : decode cX10_burn 50 = .ok (.iastore, 1) := by decide +kernel
theorem dX10_burn_51 : decode cX10_burn 51 = .ok (.aload_n 0, 1) := by decide +kernel
theorem dX10_burn_52 : decode cX10_burn 52 = .ok (.getfield 37, 3) := by decide +kernel
theorem dX10_burn_55 : decode cX10_burn 55 = .ok (.iload_n 2, 1) := by decide +kernel
theorem dX10_burn_56 : decode cX10_burn 56 = .ok (.iconst 0, 1) := by decide +kernel
theorem dX10_burn_57 : decode cX10_burn 57 = .ok (.iastore, 1) := by decide +kernel
theorem dX10_burn_58 : decode cX10_burn 58 = .ok (.iinc 1 1, 3) := by decide +kernel
theorem dX10_burn_61 : decode cX10_burn 61 = .ok (.iinc 2 1, 3) := by decide +kernel
theorem dX10_burn_64 : decode cX10_burn 64 = .ok (.goto (-60), 3) := by decide +kernel
theorem dX10_burn_67 : decode cX10_burn 67 = .ok (.iload_n 1, 1) := by decide +kernel
theorem dX10_burn_68 : decode cX10_burn 68 = .ok (.ireturn, 1) := by decide +kernel
theorem dX10_springs_0 : decode cX10_springs 0 = .ok (.aload_n 0, 1) := by decide +kernel
theorem dX10_springs_1 : decode cX10_springs 1 = .ok (.invokevirtual 137, 3) := by decide +kernel
theorem dX10_springs_4 : decode cX10_springs 4 = .ok (.ifCond .eq 6, 3) := by decide +kernel
theorem dX10_springs_7 : decode cX10_springs 7 = .ok (.bipush (-103), 2) := by decide +kernel
theorem dX10_springs_9 : decode cX10_springs 9 = .ok (.ireturn, 1) := by decide +kernel
theorem dX10_springs_10 : decode cX10_springs 10 = .ok (.iload_n 1, 1) := by decide +kernel
theorem dX10_springs_11 : decode cX10_springs 11 = .ok (.i2l, 1) := by decide +kernel
theorem dX10_springs_12 : decode cX10_springs 12 = .ok (.lconst 1, 1) := by decide +kernel
theorem dX10_springs_13 : decode cX10_springs 13 = .ok (.ldc2_w 218, 3) := by decide +kernel
theorem dX10_springs_16 : decode cX10_springs 16 = .ok (.invokestatic 68, 3) := by decide +kernel
theorem dX10_springs_19 : decode cX10_springs 19 = .ok (.ifCond .eq 15, 3) := by decide +kernel
theorem dX10_springs_22 : decode cX10_springs 22 = .ok (.iload_n 2, 1) := by decide +kernel
theorem dX10_springs_23 : decode cX10_springs 23 = .ok (.i2l, 1) := by decide +kernel
theorem dX10_springs_24 : decode cX10_springs 24 = .ok (.lconst 0, 1) := by decide +kernel
theorem dX10_springs_25 : decode cX10_springs 25 = .ok (.ldc2_w 189, 3) := by decide +kernel
theorem dX10_springs_28 : decode cX10_springs 28 = .ok (.invokestatic 68, 3) := by decide +kernel
theorem dX10_springs_31 : decode cX10_springs 31 = .ok (.ifCond .ne 6, 3) := by decide +kernel
theorem dX10_springs_34 : decode cX10_springs 34 = .ok (.bipush (-102), 2) := by decide +kernel
theorem dX10_springs_36 : decode cX10_springs 36 = .ok (.ireturn, 1) := by decide +kernel
theorem dX10_springs_37 : decode cX10_springs 37 = .ok (.aload_n 0, 1) := by decide +kernel
theorem dX10_springs_38 : decode cX10_springs 38 = .ok (.getfield 220, 3) := by decide +kernel
theorem dX10_springs_41 : decode cX10_springs 41 = .ok (.bipush 10, 2) := by decide +kernel
theorem dX10_springs_43 : decode cX10_springs 43 = .ok (.if_icmp .ne 6, 3) := by decide +kernel
theorem dX10_springs_46 : decode cX10_springs 46 = .ok (.bipush (-103), 2) := by decide +kernel
theorem dX10_springs_48 : decode cX10_springs 48 = .ok (.ireturn, 1) := by decide +kernel
theorem dX10_springs_49 : decode cX10_springs 49 = .ok (.aload_n 0, 1) := by decide +kernel
theorem dX10_springs_50 : decode cX10_springs 50 = .ok (.dup, 1) := by decide +kernel
theorem dX10_springs_51 : decode cX10_springs 51 = .ok (.getfield 220, 3) := by decide +kernel
theorem dX10_springs_54 : decode cX10_springs 54 = .ok (.iconst 1, 1) := by decide +kernel
theorem dX10_springs_55 : decode cX10_springs 55 = .ok (.iadd, 1) := by decide +kernel
theorem dX10_springs_56 : decode cX10_springs 56 = .ok (.putfield 220, 3) := by decide +kernel
theorem dX10_springs_59 : decode cX10_springs 59 = .ok (.iconst 0, 1) := by decide +kernel
theorem dX10_springs_60 : decode cX10_springs 60 = .ok (.istore_n 3, 1) := by decide +kernel
theorem dX10_springs_61 : decode cX10_springs 61 = .ok (.iload_n 3, 1) := by decide +kernel
theorem dX10_springs_62 : decode cX10_springs 62 = .ok (.bipush 7, 2) := by decide +kernel
theorem dX10_springs_64 : decode cX10_springs 64 = .ok (.if_icmp .ge 45, 3) := by decide +kernel
theorem dX10_springs_67 : decode cX10_springs 67 = .ok (.aload_n 0, 1) := by decide +kernel
theorem dX10_springs_68 : decode cX10_springs 68 = .ok (.getfield 34, 3) := by decide +kernel
theorem dX10_springs_71 : decode cX10_springs 71 = .ok (.iload_n 3, 1) := by decide +kernel
theorem dX10_springs_72 : decode cX10_springs 72 = .ok (.aload_n 0, 1) := by decide +kernel
theorem dX10_springs_73 : decode cX10_springs 73 = .ok (.getfield 16, 3) := by decide +kernel
theorem dX10_springs_76 : decode cX10_springs 76 = .ok (.iload_n 3, 1) := by decide +kernel
theorem dX10_springs_77 : decode cX10_springs 77 = .ok (.iaload, 1) := by decide +kernel
theorem dX10_springs_78 : decode cX10_springs 78 = .ok (.iastore, 1) := by decide +kernel
theorem dX10_springs_79 : decode cX10_springs 79 = .ok (.aload_n 0, 1) := by decide +kernel
theorem dX10_springs_80 : decode cX10_springs 80 = .ok (.getfield 37, 3) := by decide +kernel
theorem dX10_springs_83 : decode cX10_springs 83 = .ok (.iload_n 3, 1) := by decide +kernel
theorem dX10_springs_84 : decode cX10_springs 84 = .ok (.aload_n 0, 1) := by decide +kernel
theorem dX10_springs_85 : decode cX10_springs 85 = .ok (.getfield 19, 3) := by decide +kernel
theorem dX10_springs_88 : decode cX10_springs 88 = .ok (.iload_n 3, 1) := by decide +kernel
theorem dX10_springs_89 : decode cX10_springs 89 = .ok (.iaload, 1) := by decide +kernel
theorem dX10_springs_90 : decode cX10_springs 90 = .ok (.iastore, 1) := by decide +kernel
theorem dX10_springs_91 : decode cX10_springs 91 = .ok (.aload_n 0, 1) := by decide +kernel
theorem dX10_springs_92 : decode cX10_springs 92 = .ok (.getfield 40, 3) := by decide +kernel
theorem dX10_springs_95 : decode cX10_springs 95 = .ok (.iload_n 3, 1) := by decide +kernel
theorem dX10_springs_96 : decode cX10_springs 96 = .ok (.aload_n 0, 1) := by decide +kernel
theorem dX10_springs_97 : decode cX10_springs 97 = .ok (.getfield 22, 3) := by decide +kernel
theorem dX10_springs_100 : decode cX10_springs 100 = .ok (.iload_n 3, 1) := by decide +kernel
theorem dX10_springs_101 : decode cX10_springs 101 = .ok (.iaload, 1) := by decide +kernel
theorem dX10_springs_102 : decode cX10_springs 102 = .ok (.iastore, 1) := by decide +kernel
theorem dX10_springs_103 : decode cX10_springs 103 = .ok (.iinc 3 1, 3) := by decide +kernel
theorem dX10_springs_106 : decode cX10_springs 106 = .ok (.goto (-45), 3) := by decide +kernel
theorem dX10_springs_109 : decode cX10_springs 109 = .ok (.iconst 0, 1) := by decide +kernel
theorem dX10_springs_110 : decode cX10_springs 110 = .ok (.istore_n 3, 1) := by decide +kernel
theorem dX10_springs_111 : decode cX10_springs 111 = .ok (.iconst (-1), 1) := by decide +kernel
theorem dX10_springs_112 : decode cX10_springs 112 = .ok (.istore 4, 2) := by decide +kernel
theorem dX10_springs_114 : decode cX10_springs 114 = .ok (.iconst 1, 1) := by decide +kernel
theorem dX10_springs_115 : decode cX10_springs 115 = .ok (.istore 5, 2) := by decide +kernel
theorem dX10_springs_117 : decode cX10_springs 117 = .ok (.iload 5, 2) := by decide +kernel
theorem dX10_springs_119 : decode cX10_springs 119 = .ok (.iload_n 1, 1) := by decide +kernel
theorem dX10_springs_120 : decode cX10_springs 120 = .ok (.if_icmp .gt 39, 3) := by decide +kernel
theorem dX10_springs_123 : decode cX10_springs 123 = .ok (.aload_n 0, 1) := by decide +kernel
theorem dX10_springs_124 : decode cX10_springs 124 = .ok (.invokevirtual 223, 3) := by decide +kernel
theorem dX10_springs_127 : decode cX10_springs 127 = .ok (.iload_n 3, 1) := by decide +kernel
theorem dX10_springs_128 : decode cX10_springs 128 = .ok (.aload_n 0, 1) := by decide +kernel
theorem dX10_springs_129 : decode cX10_springs 129 = .ok (.invokevirtual 226, 3) := by decide +kernel
theorem dX10_springs_132 : decode cX10_springs 132 = .ok (.iadd, 1) := by decide +kernel
theorem dX10_springs_133 : decode cX10_springs 133 = .ok (.istore_n 3, 1) := by decide +kernel
theorem dX10_springs_134 : decode cX10_springs 134 = .ok (.iload 4, 2) := by decide +kernel
theorem dX10_springs_136 : decode cX10_springs 136 = .ok (.iconst (-1), 1) := by decide +kernel
theorem dX10_springs_137 : decode cX10_springs 137 = .ok (.if_icmp .ne 12, 3) := by decide +kernel
theorem dX10_springs_140 : decode cX10_springs 140 = .ok (.iload_n 3, 1) := by decide +kernel
theorem dX10_springs_141 : decode cX10_springs 141 = .ok (.ifCond .le 8, 3) := by decide +kernel
theorem dX10_springs_144 : decode cX10_springs 144 = .ok (.iload 5, 2) := by decide +kernel
theorem dX10_springs_146 : decode cX10_springs 146 = .ok (.goto 5, 3) := by decide +kernel
theorem dX10_springs_149 : decode cX10_springs 149 = .ok (.iload 4, 2) := by decide +kernel
theorem dX10_springs_151 : decode cX10_springs 151 = .ok (.istore 4, 2) := by decide +kernel
theorem dX10_springs_153 : decode cX10_springs 153 = .ok (.iinc 5 1, 3) := by decide +kernel
theorem dX10_springs_156 : decode cX10_springs 156 = .ok (.goto (-39), 3) := by decide +kernel
theorem dX10_springs_159 : decode cX10_springs 159 = .ok (.iload_n 2, 1) := by decide +kernel
theorem dX10_springs_160 : decode cX10_springs 160 = .ok (.ifCond .ne 7, 3) := by decide +kernel
theorem dX10_springs_163 : decode cX10_springs 163 = .ok (.iload_n 3, 1) := by decide +kernel
theorem dX10_springs_164 : decode cX10_springs 164 = .ok (.goto 21, 3) := by decide +kernel
theorem dX10_springs_167 : decode cX10_springs 167 = .ok (.iload_n 2, 1) := by decide +kernel
theorem dX10_springs_168 : decode cX10_springs 168 = .ok (.iconst 1, 1) := by decide +kernel
theorem dX10_springs_169 : decode cX10_springs 169 = .ok (.if_icmp .ne 8, 3) := by decide +kernel
theorem dX10_springs_172 : decode cX10_springs 172 = .ok (.iload 4, 2) := by decide +kernel
theorem dX10_springs_174 : decode cX10_springs 174 = .ok (.goto 11, 3) := by decide +kernel
theorem dX10_springs_177 : decode cX10_springs 177 = .ok (.aload_n 0, 1) := by decide +kernel
theorem dX10_springs_178 : decode cX10_springs 178 = .ok (.aload_n 0, 1) := by decide +kernel
theorem dX10_springs_179 : decode cX10_springs 179 = .ok (.getfield 34, 3) := by decide +kernel
theorem dX10_springs_182 : decode cX10_springs 182 = .ok (.invokevirtual 152, 3) := by decide +kernel
theorem dX10_springs_185 : decode cX10_springs 185 = .ok (.ireturn, 1) := by decide +kernel
theorem dX10_image_0 : decode cX10_image 0 = .ok (.iconst 0, 1) := by decide +kernel
theorem dX10_image_1 : decode cX10_image 1 = .ok (.istore_n 1, 1) := by decide +kernel
theorem dX10_image_2 : decode cX10_image 2 = .ok (.iload_n 1, 1) := by decide +kernel
theorem dX10_image_3 : decode cX10_image 3 = .ok (.bipush 7, 2) := by decide +kernel
theorem dX10_image_5 : decode cX10_image 5 = .ok (.if_icmp .ge 109, 3) := by decide +kernel
theorem dX10_image_8 : decode cX10_image 8 = .ok (.aload_n 0, 1) := by decide +kernel
theorem dX10_image_9 : decode cX10_image 9 = .ok (.getfield 43, 3) := by decide +kernel
theorem dX10_image_12 : decode cX10_image 12 = .ok (.bipush 6, 2) := by decide +kernel
theorem dX10_image_14 : decode cX10_image 14 = .ok (.iload_n 1, 1) := by decide +kernel
theorem dX10_image_15 : decode cX10_image 15 = .ok (.imul, 1) := by decide +kernel
theorem dX10_image_16 : decode cX10_image 16 = .ok (.aload_n 0, 1) := by decide +kernel
theorem dX10_image_17 : decode cX10_image 17 = .ok (.getfield 13, 3) := by decide +kernel
theorem dX10_image_20 : decode cX10_image 20 = .ok (.iload_n 1, 1) := by decide +kernel
theorem dX10_image_21 : decode cX10_image 21 = .ok (.iaload, 1) := by decide +kernel
theorem dX10_image_22 : decode cX10_image 22 = .ok (.iastore, 1) := by decide +kernel
theorem dX10_image_23 : decode cX10_image 23 = .ok (.aload_n 0, 1) := by decide +kernel
theorem dX10_image_24 : decode cX10_image 24 = .ok (.getfield 43, 3) := by decide +kernel
theorem dX10_image_27 : decode cX10_image 27 = .ok (.bipush 6, 2) := by decide +kernel
theorem dX10_image_29 : decode cX10_image 29 = .ok (.iload_n 1, 1) := by decide +kernel
theorem dX10_image_30 : decode cX10_image 30 = .ok (.imul, 1) := by decide +kernel
theorem dX10_image_31 : decode cX10_image 31 = .ok (.iconst 1, 1) := by decide +kernel
theorem dX10_image_32 : decode cX10_image 32 = .ok (.iadd, 1) := by decide +kernel
theorem dX10_image_33 : decode cX10_image 33 = .ok (.aload_n 0, 1) := by decide +kernel
theorem dX10_image_34 : decode cX10_image 34 = .ok (.getfield 16, 3) := by decide +kernel
theorem dX10_image_37 : decode cX10_image 37 = .ok (.iload_n 1, 1) := by decide +kernel
