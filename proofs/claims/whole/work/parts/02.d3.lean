theorem dX10_init_123 : decode cX10_init 123 = .ok (.iload_n 1, 1) := by decide +kernel
theorem dX10_init_124 : decode cX10_init 124 = .ok (.iconst 1, 1) := by decide +kernel
theorem dX10_init_125 : decode cX10_init 125 = .ok (.iastore, 1) := by decide +kernel
theorem dX10_init_126 : decode cX10_init 126 = .ok (.iinc 1 1, 3) := by decide +kernel
theorem dX10_init_129 : decode cX10_init 129 = .ok (.goto (-16), 3) := by decide +kernel
theorem dX10_init_132 : decode cX10_init 132 = .ok (.return_, 1) := by decide +kernel
theorem dX10_in_0 : decode cX10_in 0 = .ok (.lload_n 0, 1) := by decide +kernel
theorem dX10_in_1 : decode cX10_in 1 = .ok (.lload_n 2, 1) := by decide +kernel
theorem dX10_in_2 : decode cX10_in 2 = .ok (.lcmp, 1) := by decide +kernel
theorem dX10_in_3 : decode cX10_in 3 = .ok (.ifCond .lt 14, 3) := by decide +kernel
theorem dX10_in_6 : decode cX10_in 6 = .ok (.lload_n 0, 1) := by decide +kernel
theorem dX10_in_7 : decode cX10_in 7 = .ok (.lload 4, 2) := by decide +kernel
theorem dX10_in_9 : decode cX10_in 9 = .ok (.lcmp, 1) := by decide +kernel
theorem dX10_in_10 : decode cX10_in 10 = .ok (.ifCond .gt 7, 3) := by decide +kernel
theorem dX10_in_13 : decode cX10_in 13 = .ok (.iconst 1, 1) := by decide +kernel
theorem dX10_in_14 : decode cX10_in 14 = .ok (.goto 4, 3) := by decide +kernel
theorem dX10_in_17 : decode cX10_in 17 = .ok (.iconst 0, 1) := by decide +kernel
theorem dX10_in_18 : decode cX10_in 18 = .ok (.ireturn, 1) := by decide +kernel
theorem dX10_letters_0 : decode cX10_letters 0 = .ok (.iconst 0, 1) := by decide +kernel
theorem dX10_letters_1 : decode cX10_letters 1 = .ok (.istore_n 3, 1) := by decide +kernel
theorem dX10_letters_2 : decode cX10_letters 2 = .ok (.iconst 1, 1) := by decide +kernel
theorem dX10_letters_3 : decode cX10_letters 3 = .ok (.istore 4, 2) := by decide +kernel
theorem dX10_letters_5 : decode cX10_letters 5 = .ok (.lload_n 1, 1) := by decide +kernel
theorem dX10_letters_6 : decode cX10_letters 6 = .ok (.lstore 5, 2) := by decide +kernel
theorem dX10_letters_8 : decode cX10_letters 8 = .ok (.iconst 0, 1) := by decide +kernel
theorem dX10_letters_9 : decode cX10_letters 9 = .ok (.istore 7, 2) := by decide +kernel
theorem dX10_letters_11 : decode cX10_letters 11 = .ok (.iload 7, 2) := by decide +kernel
theorem dX10_letters_13 : decode cX10_letters 13 = .ok (.bipush 8, 2) := by decide +kernel
theorem dX10_letters_15 : decode cX10_letters 15 = .ok (.if_icmp .ge 68, 3) := by decide +kernel
theorem dX10_letters_18 : decode cX10_letters 18 = .ok (.lload 5, 2) := by decide +kernel
theorem dX10_letters_20 : decode cX10_letters 20 = .ok (.ldc2_w 53, 3) := by decide +kernel
theorem dX10_letters_23 : decode cX10_letters 23 = .ok (.land, 1) := by decide +kernel
theorem dX10_letters_24 : decode cX10_letters 24 = .ok (.l2i, 1) := by decide +kernel
theorem dX10_letters_25 : decode cX10_letters 25 = .ok (.istore 8, 2) := by decide +kernel
theorem dX10_letters_27 : decode cX10_letters 27 = .ok (.lload 5, 2) := by decide +kernel
theorem dX10_letters_29 : decode cX10_letters 29 = .ok (.bipush 8, 2) := by decide +kernel
theorem dX10_letters_31 : decode cX10_letters 31 = .ok (.lushr, 1) := by decide +kernel
theorem dX10_letters_32 : decode cX10_letters 32 = .ok (.lstore 5, 2) := by decide +kernel
theorem dX10_letters_34 : decode cX10_letters 34 = .ok (.iload 4, 2) := by decide +kernel
theorem dX10_letters_36 : decode cX10_letters 36 = .ok (.ifCond .eq 25, 3) := by decide +kernel
theorem dX10_letters_39 : decode cX10_letters 39 = .ok (.iload 8, 2) := by decide +kernel
theorem dX10_letters_41 : decode cX10_letters 41 = .ok (.bipush 126, 2) := by decide +kernel
theorem dX10_letters_43 : decode cX10_letters 43 = .ok (.if_icmp .gt 18, 3) := by decide +kernel
theorem dX10_letters_46 : decode cX10_letters 46 = .ok (.iload 8, 2) := by decide +kernel
theorem dX10_letters_48 : decode cX10_letters 48 = .ok (.ifCond .eq 9, 3) := by decide +kernel
theorem dX10_letters_51 : decode cX10_letters 51 = .ok (.iload_n 3, 1) := by decide +kernel
theorem dX10_letters_52 : decode cX10_letters 52 = .ok (.iload 7, 2) := by decide +kernel
theorem dX10_letters_54 : decode cX10_letters 54 = .ok (.if_icmp .ne 7, 3) := by decide +kernel
theorem dX10_letters_57 : decode cX10_letters 57 = .ok (.iconst 1, 1) := by decide +kernel
theorem dX10_letters_58 : decode cX10_letters 58 = .ok (.goto 4, 3) := by decide +kernel
theorem dX10_letters_61 : decode cX10_letters 61 = .ok (.iconst 0, 1) := by decide +kernel
theorem dX10_letters_62 : decode cX10_letters 62 = .ok (.istore 4, 2) := by decide +kernel
theorem dX10_letters_64 : decode cX10_letters 64 = .ok (.iload_n 3, 1) := by decide +kernel
theorem dX10_letters_65 : decode cX10_letters 65 = .ok (.iload 8, 2) := by decide +kernel
theorem dX10_letters_67 : decode cX10_letters 67 = .ok (.ifCond .le 7, 3) := by decide +kernel
theorem dX10_letters_70 : decode cX10_letters 70 = .ok (.iconst 1, 1) := by decide +kernel
theorem dX10_letters_71 : decode cX10_letters 71 = .ok (.goto 4, 3) := by decide +kernel
theorem dX10_letters_74 : decode cX10_letters 74 = .ok (.iconst 0, 1) := by decide +kernel
theorem dX10_letters_75 : decode cX10_letters 75 = .ok (.iadd, 1) := by decide +kernel
theorem dX10_letters_76 : decode cX10_letters 76 = .ok (.istore_n 3, 1) := by decide +kernel
theorem dX10_letters_77 : decode cX10_letters 77 = .ok (.iinc 7 1, 3) := by decide +kernel
theorem dX10_letters_80 : decode cX10_letters 80 = .ok (.goto (-69), 3) := by decide +kernel
theorem dX10_letters_83 : decode cX10_letters 83 = .ok (.iload 4, 2) := by decide +kernel
theorem dX10_letters_85 : decode cX10_letters 85 = .ok (.ifCond .ne 6, 3) := by decide +kernel
theorem dX10_letters_88 : decode cX10_letters 88 = .ok (.bipush (-102), 2) := by decide +kernel
theorem dX10_letters_90 : decode cX10_letters 90 = .ok (.ireturn, 1) := by decide +kernel
theorem dX10_letters_91 : decode cX10_letters 91 = .ok (.aload_n 0, 1) := by decide +kernel
theorem dX10_letters_92 : decode cX10_letters 92 = .ok (.getfield 55, 3) := by decide +kernel
theorem dX10_letters_95 : decode cX10_letters 95 = .ok (.iload_n 3, 1) := by decide +kernel
theorem dX10_letters_96 : decode cX10_letters 96 = .ok (.iadd, 1) := by decide +kernel
theorem dX10_letters_97 : decode cX10_letters 97 = .ok (.bipush 16, 2) := by decide +kernel
theorem dX10_letters_99 : decode cX10_letters 99 = .ok (.if_icmp .le 6, 3) := by decide +kernel
theorem dX10_letters_102 : decode cX10_letters 102 = .ok (.bipush (-104), 2) := by decide +kernel
theorem dX10_letters_104 : decode cX10_letters 104 = .ok (.ireturn, 1) := by decide +kernel
theorem dX10_letters_105 : decode cX10_letters 105 = .ok (.iconst 0, 1) := by decide +kernel
theorem dX10_letters_106 : decode cX10_letters 106 = .ok (.istore 7, 2) := by decide +kernel
theorem dX10_letters_108 : decode cX10_letters 108 = .ok (.iload 7, 2) := by decide +kernel
theorem dX10_letters_110 : decode cX10_letters 110 = .ok (.iload_n 3, 1) := by decide +kernel
theorem dX10_letters_111 : decode cX10_letters 111 = .ok (.if_icmp .ge 40, 3) := by decide +kernel
theorem dX10_letters_114 : decode cX10_letters 114 = .ok (.aload_n 0, 1) := by decide +kernel
theorem dX10_letters_115 : decode cX10_letters 115 = .ok (.getfield 7, 3) := by decide +kernel
theorem dX10_letters_118 : decode cX10_letters 118 = .ok (.aload_n 0, 1) := by decide +kernel
theorem dX10_letters_119 : decode cX10_letters 119 = .ok (.getfield 55, 3) := by decide +kernel
theorem dX10_letters_122 : decode cX10_letters 122 = .ok (.lload_n 1, 1) := by decide +kernel
theorem dX10_letters_123 : decode cX10_letters 123 = .ok (.bipush 8, 2) := by decide +kernel
theorem dX10_letters_125 : decode cX10_letters 125 = .ok (.iload 7, 2) := by decide +kernel
theorem dX10_letters_127 : decode cX10_letters 127 = .ok (.imul, 1) := by decide +kernel
theorem dX10_letters_128 : decode cX10_letters 128 = .ok (.lushr, 1) := by decide +kernel
theorem dX10_letters_129 : decode cX10_letters 129 = .ok (.ldc2_w 53, 3) := by decide +kernel
theorem dX10_letters_132 : decode cX10_letters 132 = .ok (.land, 1) := by decide +kernel
theorem dX10_letters_133 : decode cX10_letters 133 = .ok (.l2i, 1) := by decide +kernel
theorem dX10_letters_134 : decode cX10_letters 134 = .ok (.iastore, 1) := by decide +kernel
theorem dX10_letters_135 : decode cX10_letters 135 = .ok (.aload_n 0, 1) := by decide +kernel
theorem dX10_letters_136 : decode cX10_letters 136 = .ok (.dup, 1) := by decide +kernel
theorem dX10_letters_137 : decode cX10_letters 137 = .ok (.getfield 55, 3) := by decide +kernel
theorem dX10_letters_140 : decode cX10_letters 140 = .ok (.iconst 1, 1) := by decide +kernel
theorem dX10_letters_141 : decode cX10_letters 141 = .ok (.iadd, 1) := by decide +kernel
theorem dX10_letters_142 : decode cX10_letters 142 = .ok (.putfield 55, 3) := by decide +kernel
theorem dX10_letters_145 : decode cX10_letters 145 = .ok (.iinc 7 1, 3) := by decide +kernel
theorem dX10_letters_148 : decode cX10_letters 148 = .ok (.goto (-40), 3) := by decide +kernel
theorem dX10_letters_151 : decode cX10_letters 151 = .ok (.aload_n 0, 1) := by decide +kernel
theorem dX10_letters_152 : decode cX10_letters 152 = .ok (.getfield 55, 3) := by decide +kernel
theorem dX10_letters_155 : decode cX10_letters 155 = .ok (.ireturn, 1) := by decide +kernel
theorem dX10_blank_0 : decode cX10_blank 0 = .ok (.aload_n 0, 1) := by decide +kernel
theorem dX10_blank_1 : decode cX10_blank 1 = .ok (.getfield 55, 3) := by decide +kernel
theorem dX10_blank_4 : decode cX10_blank 4 = .ok (.istore_n 1, 1) := by decide +kernel
theorem dX10_blank_5 : decode cX10_blank 5 = .ok (.aload_n 0, 1) := by decide +kernel
theorem dX10_blank_6 : decode cX10_blank 6 = .ok (.iconst 0, 1) := by decide +kernel
theorem dX10_blank_7 : decode cX10_blank 7 = .ok (.putfield 55, 3) := by decide +kernel
theorem dX10_blank_10 : decode cX10_blank 10 = .ok (.iload_n 1, 1) := by decide +kernel
theorem dX10_blank_11 : decode cX10_blank 11 = .ok (.ireturn, 1) := by decide +kernel
theorem dX10_go_0 : decode cX10_go 0 = .ok (.aload_n 0, 1) := by decide +kernel
theorem dX10_go_1 : decode cX10_go 1 = .ok (.getfield 58, 3) := by decide +kernel
theorem dX10_go_4 : decode cX10_go 4 = .ok (.iconst 4, 1) := by decide +kernel
theorem dX10_go_5 : decode cX10_go 5 = .ok (.if_icmp .ne 28, 3) := by decide +kernel
theorem dX10_go_8 : decode cX10_go 8 = .ok (.aload_n 0, 1) := by decide +kernel
theorem dX10_go_9 : decode cX10_go 9 = .ok (.iload_n 1, 1) := by decide +kernel
theorem dX10_go_10 : decode cX10_go 10 = .ok (.bipush 48, 2) := by decide +kernel
theorem dX10_go_12 : decode cX10_go 12 = .ok (.isub, 1) := by decide +kernel
theorem dX10_go_13 : decode cX10_go 13 = .ok (.putfield 61, 3) := by decide +kernel
theorem dX10_go_16 : decode cX10_go 16 = .ok (.aload_n 0, 1) := by decide +kernel
theorem dX10_go_17 : decode cX10_go 17 = .ok (.iconst 5, 1) := by decide +kernel
theorem dX10_go_18 : decode cX10_go 18 = .ok (.putfield 58, 3) := by decide +kernel
theorem dX10_go_21 : decode cX10_go 21 = .ok (.iload_n 1, 1) := by decide +kernel
theorem dX10_go_22 : decode cX10_go 22 = .ok (.i2l, 1) := by decide +kernel
theorem dX10_go_23 : decode cX10_go 23 = .ok (.ldc2_w 64, 3) := by decide +kernel
theorem dX10_go_26 : decode cX10_go 26 = .ok (.ldc2_w 66, 3) := by decide +kernel
theorem dX10_go_29 : decode cX10_go 29 = .ok (.invokestatic 68, 3) := by decide +kernel
theorem dX10_go_32 : decode cX10_go 32 = .ok (.ireturn, 1) := by decide +kernel
theorem dX10_go_33 : decode cX10_go 33 = .ok (.iload_n 1, 1) := by decide +kernel
theorem dX10_go_34 : decode cX10_go 34 = .ok (.bipush 110, 2) := by decide +kernel
theorem dX10_go_36 : decode cX10_go 36 = .ok (.if_icmp .ne 7, 3) := by decide +kernel
theorem dX10_go_39 : decode cX10_go 39 = .ok (.iconst 1, 1) := by decide +kernel
theorem dX10_go_40 : decode cX10_go 40 = .ok (.goto 34, 3) := by decide +kernel
theorem dX10_go_43 : decode cX10_go 43 = .ok (.iload_n 1, 1) := by decide +kernel
theorem dX10_go_44 : decode cX10_go 44 = .ok (.bipush 116, 2) := by decide +kernel
theorem dX10_go_46 : decode cX10_go 46 = .ok (.if_icmp .ne 7, 3) := by decide +kernel
theorem dX10_go_49 : decode cX10_go 49 = .ok (.iconst 2, 1) := by decide +kernel
theorem dX10_go_50 : decode cX10_go 50 = .ok (.goto 24, 3) := by decide +kernel
theorem dX10_go_53 : decode cX10_go 53 = .ok (.iload_n 1, 1) := by decide +kernel
theorem dX10_go_54 : decode cX10_go 54 = .ok (.bipush 119, 2) := by decide +kernel
theorem dX10_go_56 : decode cX10_go 56 = .ok (.if_icmp .ne 7, 3) := by decide +kernel
theorem dX10_go_59 : decode cX10_go 59 = .ok (.iconst 3, 1) := by decide +kernel
theorem dX10_go_60 : decode cX10_go 60 = .ok (.goto 14, 3) := by decide +kernel
theorem dX10_go_63 : decode cX10_go 63 = .ok (.iload_n 1, 1) := by decide +kernel
theorem dX10_go_64 : decode cX10_go 64 = .ok (.bipush 109, 2) := by decide +kernel
theorem dX10_go_66 : decode cX10_go 66 = .ok (.if_icmp .ne 7, 3) := by decide +kernel
theorem dX10_go_69 : decode cX10_go 69 = .ok (.iconst 4, 1) := by decide +kernel
theorem dX10_go_70 : decode cX10_go 70 = .ok (.goto 4, 3) := by decide +kernel
theorem dX10_go_73 : decode cX10_go 73 = .ok (.iconst (-1), 1) := by decide +kernel
theorem dX10_go_74 : decode cX10_go 74 = .ok (.istore_n 2, 1) := by decide +kernel
theorem dX10_go_75 : decode cX10_go 75 = .ok (.iload_n 2, 1) := by decide +kernel
theorem dX10_go_76 : decode cX10_go 76 = .ok (.iconst (-1), 1) := by decide +kernel
theorem dX10_go_77 : decode cX10_go 77 = .ok (.if_icmp .eq 11, 3) := by decide +kernel
theorem dX10_go_80 : decode cX10_go 80 = .ok (.iload_n 2, 1) := by decide +kernel
theorem dX10_go_81 : decode cX10_go 81 = .ok (.aload_n 0, 1) := by decide +kernel
theorem dX10_go_82 : decode cX10_go 82 = .ok (.getfield 58, 3) := by decide +kernel
theorem dX10_go_85 : decode cX10_go 85 = .ok (.if_icmp .gt 5, 3) := by decide +kernel
theorem dX10_go_88 : decode cX10_go 88 = .ok (.iconst 0, 1) := by decide +kernel
theorem dX10_go_89 : decode cX10_go 89 = .ok (.ireturn, 1) := by decide +kernel
theorem dX10_go_90 : decode cX10_go 90 = .ok (.aload_n 0, 1) := by decide +kernel
theorem dX10_go_91 : decode cX10_go 91 = .ok (.iload_n 1, 1) := by decide +kernel
theorem dX10_go_92 : decode cX10_go 92 = .ok (.bipush 110, 2) := by decide +kernel
theorem dX10_go_94 : decode cX10_go 94 = .ok (.if_icmp .ne 7, 3) := by decide +kernel
theorem dX10_go_97 : decode cX10_go 97 = .ok (.iconst 1, 1) := by decide +kernel
theorem dX10_go_98 : decode cX10_go 98 = .ok (.goto 7, 3) := by decide +kernel
theorem dX10_go_101 : decode cX10_go 101 = .ok (.aload_n 0, 1) := by decide +kernel
theorem dX10_go_102 : decode cX10_go 102 = .ok (.getfield 72, 3) := by decide +kernel
theorem dX10_go_105 : decode cX10_go 105 = .ok (.putfield 72, 3) := by decide +kernel
theorem dX10_go_108 : decode cX10_go 108 = .ok (.aload_n 0, 1) := by decide +kernel
theorem dX10_go_109 : decode cX10_go 109 = .ok (.iload_n 1, 1) := by decide +kernel
theorem dX10_go_110 : decode cX10_go 110 = .ok (.bipush 116, 2) := by decide +kernel
theorem dX10_go_112 : decode cX10_go 112 = .ok (.if_icmp .ne 7, 3) := by decide +kernel
theorem dX10_go_115 : decode cX10_go 115 = .ok (.iconst 1, 1) := by decide +kernel
theorem dX10_go_116 : decode cX10_go 116 = .ok (.goto 7, 3) := by decide +kernel
theorem dX10_go_119 : decode cX10_go 119 = .ok (.aload_n 0, 1) := by decide +kernel
theorem dX10_go_120 : decode cX10_go 120 = .ok (.getfield 75, 3) := by decide +kernel
theorem dX10_go_123 : decode cX10_go 123 = .ok (.putfield 75, 3) := by decide +kernel
theorem dX10_go_126 : decode cX10_go 126 = .ok (.aload_n 0, 1) := by decide +kernel
theorem dX10_go_127 : decode cX10_go 127 = .ok (.iload_n 1, 1) := by decide +kernel
theorem dX10_go_128 : decode cX10_go 128 = .ok (.bipush 119, 2) := by decide +kernel
theorem dX10_go_130 : decode cX10_go 130 = .ok (.if_icmp .ne 7, 3) := by decide +kernel
theorem dX10_go_133 : decode cX10_go 133 = .ok (.iconst 1, 1) := by decide +kernel
theorem dX10_go_134 : decode cX10_go 134 = .ok (.goto 7, 3) := by decide +kernel
theorem dX10_go_137 : decode cX10_go 137 = .ok (.aload_n 0, 1) := by decide +kernel
theorem dX10_go_138 : decode cX10_go 138 = .ok (.getfield 78, 3) := by decide +kernel
theorem dX10_go_141 : decode cX10_go 141 = .ok (.putfield 78, 3) := by decide +kernel
theorem dX10_go_144 : decode cX10_go 144 = .ok (.aload_n 0, 1) := by decide +kernel
theorem dX10_go_145 : decode cX10_go 145 = .ok (.iload_n 2, 1) := by decide +kernel
theorem dX10_go_146 : decode cX10_go 146 = .ok (.putfield 58, 3) := by decide +kernel
theorem dX10_go_149 : decode cX10_go 149 = .ok (.iconst 1, 1) := by decide +kernel
theorem dX10_go_150 : decode cX10_go 150 = .ok (.ireturn, 1) := by decide +kernel
theorem dX10_faultOf_0 : decode cX10_faultOf 0 = .ok (.aload_n 0, 1) := by decide +kernel
theorem dX10_faultOf_1 : decode cX10_faultOf 1 = .ok (.iconst 0, 1) := by decide +kernel
theorem dX10_faultOf_2 : decode cX10_faultOf 2 = .ok (.putfield 58, 3) := by decide +kernel
theorem dX10_faultOf_5 : decode cX10_faultOf 5 = .ok (.aload_n 0, 1) := by decide +kernel
theorem dX10_faultOf_6 : decode cX10_faultOf 6 = .ok (.iconst 0, 1) := by decide +kernel
theorem dX10_faultOf_7 : decode cX10_faultOf 7 = .ok (.putfield 72, 3) := by decide +kernel
theorem dX10_faultOf_10 : decode cX10_faultOf 10 = .ok (.aload_n 0, 1) := by decide +kernel
theorem dX10_faultOf_11 : decode cX10_faultOf 11 = .ok (.iconst 0, 1) := by decide +kernel
theorem dX10_faultOf_12 : decode cX10_faultOf 12 = .ok (.putfield 75, 3) := by decide +kernel
theorem dX10_faultOf_15 : decode cX10_faultOf 15 = .ok (.aload_n 0, 1) := by decide +kernel
theorem dX10_faultOf_16 : decode cX10_faultOf 16 = .ok (.iconst 0, 1) := by decide +kernel
theorem dX10_faultOf_17 : decode cX10_faultOf 17 = .ok (.putfield 78, 3) := by decide +kernel
theorem dX10_faultOf_20 : decode cX10_faultOf 20 = .ok (.aload_n 0, 1) := by decide +kernel
theorem dX10_faultOf_21 : decode cX10_faultOf 21 = .ok (.bipush 10, 2) := by decide +kernel
theorem dX10_faultOf_23 : decode cX10_faultOf 23 = .ok (.putfield 61, 3) := by decide +kernel
theorem dX10_faultOf_26 : decode cX10_faultOf 26 = .ok (.iconst 0, 1) := by decide +kernel
theorem dX10_faultOf_27 : decode cX10_faultOf 27 = .ok (.istore_n 1, 1) := by decide +kernel
theorem dX10_faultOf_28 : decode cX10_faultOf 28 = .ok (.iload_n 1, 1) := by decide +kernel
theorem dX10_faultOf_29 : decode cX10_faultOf 29 = .ok (.aload_n 0, 1) := by decide +kernel
theorem dX10_faultOf_30 : decode cX10_faultOf 30 = .ok (.getfield 55, 3) := by decide +kernel
theorem dX10_faultOf_33 : decode cX10_faultOf 33 = .ok (.if_icmp .ge 22, 3) := by decide +kernel
theorem dX10_faultOf_36 : decode cX10_faultOf 36 = .ok (.aload_n 0, 1) := by decide +kernel
theorem dX10_faultOf_37 : decode cX10_faultOf 37 = .ok (.aload_n 0, 1) := by decide +kernel
theorem dX10_faultOf_38 : decode cX10_faultOf 38 = .ok (.getfield 7, 3) := by decide +kernel
theorem dX10_faultOf_41 : decode cX10_faultOf 41 = .ok (.iload_n 1, 1) := by decide +kernel
theorem dX10_faultOf_42 : decode cX10_faultOf 42 = .ok (.iaload, 1) := by decide +kernel
theorem dX10_faultOf_43 : decode cX10_faultOf 43 = .ok (.invokevirtual 81, 3) := by decide +kernel
theorem dX10_faultOf_46 : decode cX10_faultOf 46 = .ok (.ifCond .eq 9, 3) := by decide +kernel
theorem dX10_faultOf_49 : decode cX10_faultOf 49 = .ok (.iinc 1 1, 3) := by decide +kernel
theorem dX10_faultOf_52 : decode cX10_faultOf 52 = .ok (.goto (-24), 3) := by decide +kernel
theorem dX10_faultOf_55 : decode cX10_faultOf 55 = .ok (.iload_n 1, 1) := by decide +kernel
theorem dX10_faultOf_56 : decode cX10_faultOf 56 = .ok (.ireturn, 1) := by decide +kernel
theorem dX10_fault_0 : decode cX10_fault 0 = .ok (.aload_n 0, 1) := by decide +kernel
theorem dX10_fault_1 : decode cX10_fault 1 = .ok (.invokevirtual 85, 3) := by decide +kernel
theorem dX10_fault_4 : decode cX10_fault 4 = .ok (.ireturn, 1) := by decide +kernel
theorem dX10_law_0 : decode cX10_law 0 = .ok (.aload_n 0, 1) := by decide +kernel
theorem dX10_law_1 : decode cX10_law 1 = .ok (.invokevirtual 85, 3) := by decide +kernel
theorem dX10_law_4 : decode cX10_law 4 = .ok (.aload_n 0, 1) := by decide +kernel
theorem dX10_law_5 : decode cX10_law 5 = .ok (.getfield 55, 3) := by decide +kernel
theorem dX10_law_8 : decode cX10_law 8 = .ok (.if_icmp .lt 11, 3) := by decide +kernel
theorem dX10_law_11 : decode cX10_law 11 = .ok (.aload_n 0, 1) := by decide +kernel
theorem dX10_law_12 : decode cX10_law 12 = .ok (.getfield 58, 3) := by decide +kernel
theorem dX10_law_15 : decode cX10_law 15 = .ok (.iconst 4, 1) := by decide +kernel
theorem dX10_law_16 : decode cX10_law 16 = .ok (.if_icmp .ne 6, 3) := by decide +kernel
theorem dX10_law_19 : decode cX10_law 19 = .ok (.bipush (-103), 2) := by decide +kernel
theorem dX10_law_21 : decode cX10_law 21 = .ok (.ireturn, 1) := by decide +kernel
theorem dX10_law_22 : decode cX10_law 22 = .ok (.aload_n 0, 1) := by decide +kernel
theorem dX10_law_23 : decode cX10_law 23 = .ok (.aload_n 0, 1) := by decide +kernel
theorem dX10_law_24 : decode cX10_law 24 = .ok (.getfield 72, 3) := by decide +kernel
theorem dX10_law_27 : decode cX10_law 27 = .ok (.putfield 89, 3) := by decide +kernel
theorem dX10_law_30 : decode cX10_law 30 = .ok (.aload_n 0, 1) := by decide +kernel
theorem dX10_law_31 : decode cX10_law 31 = .ok (.aload_n 0, 1) := by decide +kernel
theorem dX10_law_32 : decode cX10_law 32 = .ok (.getfield 75, 3) := by decide +kernel
theorem dX10_law_35 : decode cX10_law 35 = .ok (.putfield 92, 3) := by decide +kernel
theorem dX10_law_38 : decode cX10_law 38 = .ok (.aload_n 0, 1) := by decide +kernel
theorem dX10_law_39 : decode cX10_law 39 = .ok (.aload_n 0, 1) := by decide +kernel
theorem dX10_law_40 : decode cX10_law 40 = .ok (.getfield 78, 3) := by decide +kernel
theorem dX10_law_43 : decode cX10_law 43 = .ok (.putfield 95, 3) := by decide +kernel
theorem dX10_law_46 : decode cX10_law 46 = .ok (.aload_n 0, 1) := by decide +kernel
theorem dX10_law_47 : decode cX10_law 47 = .ok (.aload_n 0, 1) := by decide +kernel
theorem dX10_law_48 : decode cX10_law 48 = .ok (.getfield 61, 3) := by decide +kernel
theorem dX10_law_51 : decode cX10_law 51 = .ok (.putfield 50, 3) := by decide +kernel
theorem dX10_law_54 : decode cX10_law 54 = .ok (.aload_n 0, 1) := by decide +kernel
theorem dX10_law_55 : decode cX10_law 55 = .ok (.dup, 1) := by decide +kernel
theorem dX10_law_56 : decode cX10_law 56 = .ok (.getfield 98, 3) := by decide +kernel
theorem dX10_law_59 : decode cX10_law 59 = .ok (.iconst 1, 1) := by decide +kernel
theorem dX10_law_60 : decode cX10_law 60 = .ok (.iadd, 1) := by decide +kernel
theorem dX10_law_61 : decode cX10_law 61 = .ok (.putfield 98, 3) := by decide +kernel
theorem dX10_law_64 : decode cX10_law 64 = .ok (.aload_n 0, 1) := by decide +kernel
theorem dX10_law_65 : decode cX10_law 65 = .ok (.iconst 0, 1) := by decide +kernel
theorem dX10_law_66 : decode cX10_law 66 = .ok (.putfield 55, 3) := by decide +kernel
theorem dX10_law_69 : decode cX10_law 69 = .ok (.aload_n 0, 1) := by decide +kernel
theorem dX10_law_70 : decode cX10_law 70 = .ok (.getfield 98, 3) := by decide +kernel
theorem dX10_law_73 : decode cX10_law 73 = .ok (.ireturn, 1) := by decide +kernel
theorem dX10_tellLaw_0 : decode cX10_tellLaw 0 = .ok (.iload_n 1, 1) := by decide +kernel
theorem dX10_tellLaw_1 : decode cX10_tellLaw 1 = .ok (.ifCond .ne 10, 3) := by decide +kernel
theorem dX10_tellLaw_4 : decode cX10_tellLaw 4 = .ok (.aload_n 0, 1) := by decide +kernel
theorem dX10_tellLaw_5 : decode cX10_tellLaw 5 = .ok (.getfield 89, 3) := by decide +kernel
theorem dX10_tellLaw_8 : decode cX10_tellLaw 8 = .ok (.goto 41, 3) := by decide +kernel
theorem dX10_tellLaw_11 : decode cX10_tellLaw 11 = .ok (.iload_n 1, 1) := by decide +kernel
theorem dX10_tellLaw_12 : decode cX10_tellLaw 12 = .ok (.iconst 1, 1) := by decide +kernel
theorem dX10_tellLaw_13 : decode cX10_tellLaw 13 = .ok (.if_icmp .ne 10, 3) := by decide +kernel
theorem dX10_tellLaw_16 : decode cX10_tellLaw 16 = .ok (.aload_n 0, 1) := by decide +kernel
theorem dX10_tellLaw_17 : decode cX10_tellLaw 17 = .ok (.getfield 92, 3) := by decide +kernel
theorem dX10_tellLaw_20 : decode cX10_tellLaw 20 = .ok (.goto 29, 3) := by decide +kernel
theorem dX10_tellLaw_23 : decode cX10_tellLaw 23 = .ok (.iload_n 1, 1) := by decide +kernel
theorem dX10_tellLaw_24 : decode cX10_tellLaw 24 = .ok (.iconst 2, 1) := by decide +kernel
theorem dX10_tellLaw_25 : decode cX10_tellLaw 25 = .ok (.if_icmp .ne 10, 3) := by decide +kernel
theorem dX10_tellLaw_28 : decode cX10_tellLaw 28 = .ok (.aload_n 0, 1) := by decide +kernel
theorem dX10_tellLaw_29 : decode cX10_tellLaw 29 = .ok (.getfield 95, 3) := by decide +kernel
theorem dX10_tellLaw_32 : decode cX10_tellLaw 32 = .ok (.goto 17, 3) := by decide +kernel
theorem dX10_tellLaw_35 : decode cX10_tellLaw 35 = .ok (.iload_n 1, 1) := by decide +kernel
theorem dX10_tellLaw_36 : decode cX10_tellLaw 36 = .ok (.iconst 3, 1) := by decide +kernel
theorem dX10_tellLaw_37 : decode cX10_tellLaw 37 = .ok (.if_icmp .ne 10, 3) := by decide +kernel
theorem dX10_tellLaw_40 : decode cX10_tellLaw 40 = .ok (.aload_n 0, 1) := by decide +kernel
theorem dX10_tellLaw_41 : decode cX10_tellLaw 41 = .ok (.getfield 50, 3) := by decide +kernel
theorem dX10_tellLaw_44 : decode cX10_tellLaw 44 = .ok (.goto 5, 3) := by decide +kernel
theorem dX10_tellLaw_47 : decode cX10_tellLaw 47 = .ok (.bipush (-102), 2) := by decide +kernel
theorem dX10_tellLaw_49 : decode cX10_tellLaw 49 = .ok (.ireturn, 1) := by decide +kernel
theorem dX10_lawTold_0 : decode cX10_lawTold 0 = .ok (.aload_n 0, 1) := by decide +kernel
theorem dX10_lawTold_1 : decode cX10_lawTold 1 = .ok (.iload_n 1, 1) := by decide +kernel
theorem dX10_lawTold_2 : decode cX10_lawTold 2 = .ok (.invokevirtual 101, 3) := by decide +kernel
theorem dX10_lawTold_5 : decode cX10_lawTold 5 = .ok (.ireturn, 1) := by decide +kernel
theorem dX10_isBlock_0 : decode cX10_isBlock 0 = .ok (.iload_n 1, 1) := by decide +kernel
theorem dX10_isBlock_1 : decode cX10_isBlock 1 = .ok (.i2l, 1) := by decide +kernel
theorem dX10_isBlock_2 : decode cX10_isBlock 2 = .ok (.lconst 0, 1) := by decide +kernel
theorem dX10_isBlock_3 : decode cX10_isBlock 3 = .ok (.aload_n 0, 1) := by decide +kernel
theorem dX10_isBlock_4 : decode cX10_isBlock 4 = .ok (.getfield 105, 3) := by decide +kernel
theorem dX10_isBlock_7 : decode cX10_isBlock 7 = .ok (.iconst 1, 1) := by decide +kernel
theorem dX10_isBlock_8 : decode cX10_isBlock 8 = .ok (.isub, 1) := by decide +kernel
theorem dX10_isBlock_9 : decode cX10_isBlock 9 = .ok (.i2l, 1) := by decide +kernel
theorem dX10_isBlock_10 : decode cX10_isBlock 10 = .ok (.invokestatic 68, 3) := by decide +kernel
theorem dX10_isBlock_13 : decode cX10_isBlock 13 = .ok (.ireturn, 1) := by decide +kernel
theorem dX10_block_0 : decode cX10_block 0 = .ok (.iload_n 1, 1) := by decide +kernel
theorem dX10_block_1 : decode cX10_block 1 = .ok (.i2l, 1) := by decide +kernel
theorem dX10_block_2 : decode cX10_block 2 = .ok (.lconst 0, 1) := by decide +kernel
theorem dX10_block_3 : decode cX10_block 3 = .ok (.ldc2_w 108, 3) := by decide +kernel
theorem dX10_block_6 : decode cX10_block 6 = .ok (.invokestatic 68, 3) := by decide +kernel
theorem dX10_block_9 : decode cX10_block 9 = .ok (.ifCond .eq 27, 3) := by decide +kernel
theorem dX10_block_12 : decode cX10_block 12 = .ok (.iload_n 2, 1) := by decide +kernel
theorem dX10_block_13 : decode cX10_block 13 = .ok (.i2l, 1) := by decide +kernel
theorem dX10_block_14 : decode cX10_block 14 = .ok (.lconst 0, 1) := by decide +kernel
theorem dX10_block_15 : decode cX10_block 15 = .ok (.ldc2_w 110, 3) := by decide +kernel
theorem dX10_block_18 : decode cX10_block 18 = .ok (.invokestatic 68, 3) := by decide +kernel
theorem dX10_block_21 : decode cX10_block 21 = .ok (.ifCond .eq 15, 3) := by decide +kernel
theorem dX10_block_24 : decode cX10_block 24 = .ok (.iload_n 3, 1) := by decide +kernel
theorem dX10_block_25 : decode cX10_block 25 = .ok (.i2l, 1) := by decide +kernel
theorem dX10_block_26 : decode cX10_block 26 = .ok (.lconst 0, 1) := by decide +kernel
theorem dX10_block_27 : decode cX10_block 27 = .ok (.ldc2_w 110, 3) := by decide +kernel
theorem dX10_block_30 : decode cX10_block 30 = .ok (.invokestatic 68, 3) := by decide +kernel
theorem dX10_block_33 : decode cX10_block 33 = .ok (.ifCond .ne 6, 3) := by decide +kernel
theorem dX10_block_36 : decode cX10_block 36 = .ok (.bipush (-102), 2) := by decide +kernel
theorem dX10_block_38 : decode cX10_block 38 = .ok (.ireturn, 1) := by decide +kernel
theorem dX10_block_39 : decode cX10_block 39 = .ok (.aload_n 0, 1) := by decide +kernel
theorem dX10_block_40 : decode cX10_block 40 = .ok (.getfield 105, 3) := by decide +kernel
theorem dX10_block_43 : decode cX10_block 43 = .ok (.bipush 7, 2) := by decide +kernel
theorem dX10_block_45 : decode cX10_block 45 = .ok (.if_icmp .ne 6, 3) := by decide +kernel
theorem dX10_block_48 : decode cX10_block 48 = .ok (.bipush (-104), 2) := by decide +kernel
theorem dX10_block_50 : decode cX10_block 50 = .ok (.ireturn, 1) := by decide +kernel
theorem dX10_block_51 : decode cX10_block 51 = .ok (.aload_n 0, 1) := by decide +kernel
theorem dX10_block_52 : decode cX10_block 52 = .ok (.getfield 13, 3) := by decide +kernel
theorem dX10_block_55 : decode cX10_block 55 = .ok (.aload_n 0, 1) := by decide +kernel
theorem dX10_block_56 : decode cX10_block 56 = .ok (.getfield 105, 3) := by decide +kernel
theorem dX10_block_59 : decode cX10_block 59 = .ok (.iload_n 1, 1) := by decide +kernel
theorem dX10_block_60 : decode cX10_block 60 = .ok (.iastore, 1) := by decide +kernel
theorem dX10_block_61 : decode cX10_block 61 = .ok (.aload_n 0, 1) := by decide +kernel
theorem dX10_block_62 : decode cX10_block 62 = .ok (.getfield 16, 3) := by decide +kernel
theorem dX10_block_65 : decode cX10_block 65 = .ok (.aload_n 0, 1) := by decide +kernel
theorem dX10_block_66 : decode cX10_block 66 = .ok (.getfield 105, 3) := by decide +kernel
theorem dX10_block_69 : decode cX10_block 69 = .ok (.iload_n 2, 1) := by decide +kernel
theorem dX10_block_70 : decode cX10_block 70 = .ok (.iastore, 1) := by decide +kernel
theorem dX10_block_71 : decode cX10_block 71 = .ok (.aload_n 0, 1) := by decide +kernel
theorem dX10_block_72 : decode cX10_block 72 = .ok (.getfield 19, 3) := by decide +kernel
theorem dX10_block_75 : decode cX10_block 75 = .ok (.aload_n 0, 1) := by decide +kernel
theorem dX10_block_76 : decode cX10_block 76 = .ok (.getfield 105, 3) := by decide +kernel
theorem dX10_block_79 : decode cX10_block 79 = .ok (.iload_n 3, 1) := by decide +kernel
theorem dX10_block_80 : decode cX10_block 80 = .ok (.iastore, 1) := by decide +kernel
theorem dX10_block_81 : decode cX10_block 81 = .ok (.aload_n 0, 1) := by decide +kernel
theorem dX10_block_82 : decode cX10_block 82 = .ok (.getfield 22, 3) := by decide +kernel
theorem dX10_block_85 : decode cX10_block 85 = .ok (.aload_n 0, 1) := by decide +kernel
theorem dX10_block_86 : decode cX10_block 86 = .ok (.getfield 105, 3) := by decide +kernel
theorem dX10_block_89 : decode cX10_block 89 = .ok (.aload_n 0, 1) := by decide +kernel
theorem dX10_block_90 : decode cX10_block 90 = .ok (.getfield 105, 3) := by decide +kernel
theorem dX10_block_93 : decode cX10_block 93 = .ok (.iastore, 1) := by decide +kernel
theorem dX10_block_94 : decode cX10_block 94 = .ok (.aload_n 0, 1) := by decide +kernel
theorem dX10_block_95 : decode cX10_block 95 = .ok (.getfield 25, 3) := by decide +kernel
theorem dX10_block_98 : decode cX10_block 98 = .ok (.aload_n 0, 1) := by decide +kernel
theorem dX10_block_99 : decode cX10_block 99 = .ok (.getfield 105, 3) := by decide +kernel
theorem dX10_block_102 : decode cX10_block 102 = .ok (.iconst (-1), 1) := by decide +kernel
theorem dX10_block_103 : decode cX10_block 103 = .ok (.iastore, 1) := by decide +kernel
theorem dX10_block_104 : decode cX10_block 104 = .ok (.aload_n 0, 1) := by decide +kernel
theorem dX10_block_105 : decode cX10_block 105 = .ok (.dup, 1) := by decide +kernel
theorem dX10_block_106 : decode cX10_block 106 = .ok (.getfield 105, 3) := by decide +kernel
theorem dX10_block_109 : decode cX10_block 109 = .ok (.iconst 1, 1) := by decide +kernel
theorem dX10_block_110 : decode cX10_block 110 = .ok (.iadd, 1) := by decide +kernel
theorem dX10_block_111 : decode cX10_block 111 = .ok (.putfield 105, 3) := by decide +kernel
theorem dX10_block_114 : decode cX10_block 114 = .ok (.aload_n 0, 1) := by decide +kernel
theorem dX10_block_115 : decode cX10_block 115 = .ok (.getfield 105, 3) := by decide +kernel
theorem dX10_block_118 : decode cX10_block 118 = .ok (.iconst 1, 1) := by decide +kernel
theorem dX10_block_119 : decode cX10_block 119 = .ok (.isub, 1) := by decide +kernel
theorem dX10_block_120 : decode cX10_block 120 = .ok (.ireturn, 1) := by decide +kernel
theorem dX10_tell_0 : decode cX10_tell 0 = .ok (.iload_n 2, 1) := by decide +kernel
theorem dX10_tell_1 : decode cX10_tell 1 = .ok (.tableswitch 70 0 4 #[35, 42, 49, 56, 63], 35) := by decide +kernel
theorem dX10_tell_36 : decode cX10_tell 36 = .ok (.aload_n 0, 1) := by decide +kernel
theorem dX10_tell_37 : decode cX10_tell 37 = .ok (.getfield 13, 3) := by decide +kernel
theorem dX10_tell_40 : decode cX10_tell 40 = .ok (.iload_n 1, 1) := by decide +kernel
theorem dX10_tell_41 : decode cX10_tell 41 = .ok (.iaload, 1) := by decide +kernel
theorem dX10_tell_42 : decode cX10_tell 42 = .ok (.ireturn, 1) := by decide +kernel
theorem dX10_tell_43 : decode cX10_tell 43 = .ok (.aload_n 0, 1) := by decide +kernel
theorem dX10_tell_44 : decode cX10_tell 44 = .ok (.getfield 16, 3) := by decide +kernel
theorem dX10_tell_47 : decode cX10_tell 47 = .ok (.iload_n 1, 1) := by decide +kernel
theorem dX10_tell_48 : decode cX10_tell 48 = .ok (.iaload, 1) := by decide +kernel
theorem dX10_tell_49 : decode cX10_tell 49 = .ok (.ireturn, 1) := by decide +kernel
theorem dX10_tell_50 : decode cX10_tell 50 = .ok (.aload_n 0, 1) := by decide +kernel
theorem dX10_tell_51 : decode cX10_tell 51 = .ok (.getfield 19, 3) := by decide +kernel
theorem dX10_tell_54 : decode cX10_tell 54 = .ok (.iload_n 1, 1) := by decide +kernel
theorem dX10_tell_55 : decode cX10_tell 55 = .ok (.iaload, 1) := by decide +kernel
theorem dX10_tell_56 : decode cX10_tell 56 = .ok (.ireturn, 1) := by decide +kernel
theorem dX10_tell_57 : decode cX10_tell 57 = .ok (.aload_n 0, 1) := by decide +kernel
theorem dX10_tell_58 : decode cX10_tell 58 = .ok (.getfield 22, 3) := by decide +kernel
theorem dX10_tell_61 : decode cX10_tell 61 = .ok (.iload_n 1, 1) := by decide +kernel
theorem dX10_tell_62 : decode cX10_tell 62 = .ok (.iaload, 1) := by decide +kernel
theorem dX10_tell_63 : decode cX10_tell 63 = .ok (.ireturn, 1) := by decide +kernel
theorem dX10_tell_64 : decode cX10_tell 64 = .ok (.aload_n 0, 1) := by decide +kernel
theorem dX10_tell_65 : decode cX10_tell 65 = .ok (.getfield 25, 3) := by decide +kernel
theorem dX10_tell_68 : decode cX10_tell 68 = .ok (.iload_n 1, 1) := by decide +kernel
theorem dX10_tell_69 : decode cX10_tell 69 = .ok (.iaload, 1) := by decide +kernel
theorem dX10_tell_70 : decode cX10_tell 70 = .ok (.ireturn, 1) := by decide +kernel
theorem dX10_tell_71 : decode cX10_tell 71 = .ok (.bipush (-102), 2) := by decide +kernel
theorem dX10_tell_73 : decode cX10_tell 73 = .ok (.ireturn, 1) := by decide +kernel
theorem dX10_about_0 : decode cX10_about 0 = .ok (.aload_n 0, 1) := by decide +kernel
theorem dX10_about_1 : decode cX10_about 1 = .ok (.iload_n 1, 1) := by decide +kernel
theorem dX10_about_2 : decode cX10_about 2 = .ok (.invokevirtual 112, 3) := by decide +kernel
theorem dX10_about_5 : decode cX10_about 5 = .ok (.ifCond .eq 12, 3) := by decide +kernel
theorem dX10_about_8 : decode cX10_about 8 = .ok (.aload_n 0, 1) := by decide +kernel
theorem dX10_about_9 : decode cX10_about 9 = .ok (.iload_n 1, 1) := by decide +kernel
theorem dX10_about_10 : decode cX10_about 10 = .ok (.iload_n 2, 1) := by decide +kernel
theorem dX10_about_11 : decode cX10_about 11 = .ok (.invokevirtual 115, 3) := by decide +kernel
theorem dX10_about_14 : decode cX10_about 14 = .ok (.goto 5, 3) := by decide +kernel
theorem dX10_about_17 : decode cX10_about 17 = .ok (.bipush (-101), 2) := by decide +kernel
theorem dX10_about_19 : decode cX10_about 19 = .ok (.ireturn, 1) := by decide +kernel
theorem dX10_as_0 : decode cX10_as 0 = .ok (.aload_n 0, 1) := by decide +kernel
theorem dX10_as_1 : decode cX10_as 1 = .ok (.iload_n 1, 1) := by decide +kernel
theorem dX10_as_2 : decode cX10_as 2 = .ok (.invokevirtual 112, 3) := by decide +kernel
theorem dX10_as_5 : decode cX10_as 5 = .ok (.ifCond .ne 6, 3) := by decide +kernel
theorem dX10_as_8 : decode cX10_as 8 = .ok (.bipush (-101), 2) := by decide +kernel
theorem dX10_as_10 : decode cX10_as 10 = .ok (.ireturn, 1) := by decide +kernel
theorem dX10_as_11 : decode cX10_as 11 = .ok (.iload_n 2, 1) := by decide +kernel
theorem dX10_as_12 : decode cX10_as 12 = .ok (.i2l, 1) := by decide +kernel
theorem dX10_as_13 : decode cX10_as 13 = .ok (.lconst 0, 1) := by decide +kernel
theorem dX10_as_14 : decode cX10_as 14 = .ok (.ldc2_w 108, 3) := by decide +kernel
theorem dX10_as_17 : decode cX10_as 17 = .ok (.invokestatic 68, 3) := by decide +kernel
theorem dX10_as_20 : decode cX10_as 20 = .ok (.ifCond .ne 6, 3) := by decide +kernel
theorem dX10_as_23 : decode cX10_as 23 = .ok (.bipush (-102), 2) := by decide +kernel
theorem dX10_as_25 : decode cX10_as 25 = .ok (.ireturn, 1) := by decide +kernel
theorem dX10_as_26 : decode cX10_as 26 = .ok (.iload_n 2, 1) := by decide +kernel
theorem dX10_as_27 : decode cX10_as 27 = .ok (.ifCond .eq 28, 3) := by decide +kernel
theorem dX10_as_30 : decode cX10_as 30 = .ok (.iload_n 2, 1) := by decide +kernel
theorem dX10_as_31 : decode cX10_as 31 = .ok (.aload_n 0, 1) := by decide +kernel
theorem dX10_as_32 : decode cX10_as 32 = .ok (.getfield 13, 3) := by decide +kernel
theorem dX10_as_35 : decode cX10_as 35 = .ok (.iload_n 1, 1) := by decide +kernel
theorem dX10_as_36 : decode cX10_as 36 = .ok (.iaload, 1) := by decide +kernel
theorem dX10_as_37 : decode cX10_as 37 = .ok (.if_icmp .eq 18, 3) := by decide +kernel
theorem dX10_as_40 : decode cX10_as 40 = .ok (.iload_n 2, 1) := by decide +kernel
theorem dX10_as_41 : decode cX10_as 41 = .ok (.iconst 1, 1) := by decide +kernel
theorem dX10_as_42 : decode cX10_as 42 = .ok (.if_icmp .ne 17, 3) := by decide +kernel
theorem dX10_as_45 : decode cX10_as 45 = .ok (.aload_n 0, 1) := by decide +kernel
theorem dX10_as_46 : decode cX10_as 46 = .ok (.getfield 13, 3) := by decide +kernel
theorem dX10_as_49 : decode cX10_as 49 = .ok (.iload_n 1, 1) := by decide +kernel
theorem dX10_as_50 : decode cX10_as 50 = .ok (.iaload, 1) := by decide +kernel
theorem dX10_as_51 : decode cX10_as 51 = .ok (.iconst 4, 1) := by decide +kernel
theorem dX10_as_52 : decode cX10_as 52 = .ok (.if_icmp .ne 7, 3) := by decide +kernel
theorem dX10_as_55 : decode cX10_as 55 = .ok (.iconst 1, 1) := by decide +kernel
theorem dX10_as_56 : decode cX10_as 56 = .ok (.goto 4, 3) := by decide +kernel
theorem dX10_as_59 : decode cX10_as 59 = .ok (.iconst 0, 1) := by decide +kernel
theorem dX10_as_60 : decode cX10_as 60 = .ok (.istore_n 3, 1) := by decide +kernel
theorem dX10_as_61 : decode cX10_as 61 = .ok (.iload_n 3, 1) := by decide +kernel
theorem dX10_as_62 : decode cX10_as 62 = .ok (.ifCond .eq 7, 3) := by decide +kernel
theorem dX10_as_65 : decode cX10_as 65 = .ok (.iload_n 1, 1) := by decide +kernel
theorem dX10_as_66 : decode cX10_as 66 = .ok (.goto 4, 3) := by decide +kernel
theorem dX10_as_69 : decode cX10_as 69 = .ok (.iconst (-1), 1) := by decide +kernel
theorem dX10_as_70 : decode cX10_as 70 = .ok (.ireturn, 1) := by decide +kernel
theorem dX10_wheels_0 : decode cX10_wheels 0 = .ok (.iload_n 1, 1) := by decide +kernel
theorem dX10_wheels_1 : decode cX10_wheels 1 = .ok (.i2l, 1) := by decide +kernel
theorem dX10_wheels_2 : decode cX10_wheels 2 = .ok (.lconst 0, 1) := by decide +kernel
theorem dX10_wheels_3 : decode cX10_wheels 3 = .ok (.ldc2_w 119, 3) := by decide +kernel
theorem dX10_wheels_6 : decode cX10_wheels 6 = .ok (.invokestatic 68, 3) := by decide +kernel
theorem dX10_wheels_9 : decode cX10_wheels 9 = .ok (.ifCond .ne 6, 3) := by decide +kernel
theorem dX10_wheels_12 : decode cX10_wheels 12 = .ok (.bipush (-101), 2) := by decide +kernel
theorem dX10_wheels_14 : decode cX10_wheels 14 = .ok (.ireturn, 1) := by decide +kernel
theorem dX10_wheels_15 : decode cX10_wheels 15 = .ok (.iload_n 2, 1) := by decide +kernel
theorem dX10_wheels_16 : decode cX10_wheels 16 = .ok (.i2l, 1) := by decide +kernel
theorem dX10_wheels_17 : decode cX10_wheels 17 = .ok (.lconst 0, 1) := by decide +kernel
theorem dX10_wheels_18 : decode cX10_wheels 18 = .ok (.ldc2_w 121, 3) := by decide +kernel
theorem dX10_wheels_21 : decode cX10_wheels 21 = .ok (.invokestatic 68, 3) := by decide +kernel
theorem dX10_wheels_24 : decode cX10_wheels 24 = .ok (.ifCond .ne 6, 3) := by decide +kernel
theorem dX10_wheels_27 : decode cX10_wheels 27 = .ok (.bipush (-102), 2) := by decide +kernel
theorem dX10_wheels_29 : decode cX10_wheels 29 = .ok (.ireturn, 1) := by decide +kernel
theorem dX10_wheels_30 : decode cX10_wheels 30 = .ok (.aload_n 0, 1) := by decide +kernel
theorem dX10_wheels_31 : decode cX10_wheels 31 = .ok (.getfield 28, 3) := by decide +kernel
theorem dX10_wheels_34 : decode cX10_wheels 34 = .ok (.iload_n 1, 1) := by decide +kernel
theorem dX10_wheels_35 : decode cX10_wheels 35 = .ok (.iaload, 1) := by decide +kernel
theorem dX10_wheels_36 : decode cX10_wheels 36 = .ok (.istore_n 3, 1) := by decide +kernel
theorem dX10_wheels_37 : decode cX10_wheels 37 = .ok (.aload_n 0, 1) := by decide +kernel
theorem dX10_wheels_38 : decode cX10_wheels 38 = .ok (.getfield 28, 3) := by decide +kernel
theorem dX10_wheels_41 : decode cX10_wheels 41 = .ok (.iload_n 1, 1) := by decide +kernel
theorem dX10_wheels_42 : decode cX10_wheels 42 = .ok (.iload_n 2, 1) := by decide +kernel
theorem dX10_wheels_43 : decode cX10_wheels 43 = .ok (.iastore, 1) := by decide +kernel
theorem dX10_wheels_44 : decode cX10_wheels 44 = .ok (.iload_n 3, 1) := by decide +kernel
theorem dX10_wheels_45 : decode cX10_wheels 45 = .ok (.ireturn, 1) := by decide +kernel
theorem dX10_blockAt_0 : decode cX10_blockAt 0 = .ok (.iconst (-1), 1) := by decide +kernel
theorem dX10_blockAt_1 : decode cX10_blockAt 1 = .ok (.istore_n 2, 1) := by decide +kernel
theorem dX10_blockAt_2 : decode cX10_blockAt 2 = .ok (.iconst 0, 1) := by decide +kernel
theorem dX10_blockAt_3 : decode cX10_blockAt 3 = .ok (.istore_n 3, 1) := by decide +kernel
theorem dX10_blockAt_4 : decode cX10_blockAt 4 = .ok (.iload_n 3, 1) := by decide +kernel
theorem dX10_blockAt_5 : decode cX10_blockAt 5 = .ok (.aload_n 0, 1) := by decide +kernel
theorem dX10_blockAt_6 : decode cX10_blockAt 6 = .ok (.getfield 105, 3) := by decide +kernel
theorem dX10_blockAt_9 : decode cX10_blockAt 9 = .ok (.if_icmp .ge 25, 3) := by decide +kernel
theorem dX10_blockAt_12 : decode cX10_blockAt 12 = .ok (.aload_n 0, 1) := by decide +kernel
theorem dX10_blockAt_13 : decode cX10_blockAt 13 = .ok (.getfield 22, 3) := by decide +kernel
theorem dX10_blockAt_16 : decode cX10_blockAt 16 = .ok (.iload_n 3, 1) := by decide +kernel
theorem dX10_blockAt_17 : decode cX10_blockAt 17 = .ok (.iaload, 1) := by decide +kernel
theorem dX10_blockAt_18 : decode cX10_blockAt 18 = .ok (.iload_n 1, 1) := by decide +kernel
theorem dX10_blockAt_19 : decode cX10_blockAt 19 = .ok (.if_icmp .ne 7, 3) := by decide +kernel
theorem dX10_blockAt_22 : decode cX10_blockAt 22 = .ok (.iload_n 3, 1) := by decide +kernel
theorem dX10_blockAt_23 : decode cX10_blockAt 23 = .ok (.goto 4, 3) := by decide +kernel
theorem dX10_blockAt_26 : decode cX10_blockAt 26 = .ok (.iload_n 2, 1) := by decide +kernel
theorem dX10_blockAt_27 : decode cX10_blockAt 27 = .ok (.istore_n 2, 1) := by decide +kernel
theorem dX10_blockAt_28 : decode cX10_blockAt 28 = .ok (.iinc 3 1, 3) := by decide +kernel
theorem dX10_blockAt_31 : decode cX10_blockAt 31 = .ok (.goto (-27), 3) := by decide +kernel
theorem dX10_blockAt_34 : decode cX10_blockAt 34 = .ok (.iload_n 2, 1) := by decide +kernel
theorem dX10_blockAt_35 : decode cX10_blockAt 35 = .ok (.ireturn, 1) := by decide +kernel
theorem dX10_at_0 : decode cX10_at 0 = .ok (.aload_n 0, 1) := by decide +kernel
theorem dX10_at_1 : decode cX10_at 1 = .ok (.iload_n 1, 1) := by decide +kernel
theorem dX10_at_2 : decode cX10_at 2 = .ok (.invokevirtual 112, 3) := by decide +kernel
theorem dX10_at_5 : decode cX10_at 5 = .ok (.ifCond .eq 11, 3) := by decide +kernel
theorem dX10_at_8 : decode cX10_at 8 = .ok (.aload_n 0, 1) := by decide +kernel
theorem dX10_at_9 : decode cX10_at 9 = .ok (.iload_n 1, 1) := by decide +kernel
theorem dX10_at_10 : decode cX10_at 10 = .ok (.invokevirtual 123, 3) := by decide +kernel
theorem dX10_at_13 : decode cX10_at 13 = .ok (.goto 5, 3) := by decide +kernel
theorem dX10_at_16 : decode cX10_at 16 = .ok (.bipush (-101), 2) := by decide +kernel
theorem dX10_at_18 : decode cX10_at 18 = .ok (.ireturn, 1) := by decide +kernel
theorem dX10_exchange_0 : decode cX10_exchange 0 = .ok (.aload_n 0, 1) := by decide +kernel
theorem dX10_exchange_1 : decode cX10_exchange 1 = .ok (.iload_n 2, 1) := by decide +kernel
theorem dX10_exchange_2 : decode cX10_exchange 2 = .ok (.iaload, 1) := by decide +kernel
theorem dX10_exchange_3 : decode cX10_exchange 3 = .ok (.istore_n 3, 1) := by decide +kernel
theorem dX10_exchange_4 : decode cX10_exchange 4 = .ok (.aload_n 0, 1) := by decide +kernel
theorem dX10_exchange_5 : decode cX10_exchange 5 = .ok (.iload_n 2, 1) := by decide +kernel
theorem dX10_exchange_6 : decode cX10_exchange 6 = .ok (.aload_n 1, 1) := by decide +kernel
theorem dX10_exchange_7 : decode cX10_exchange 7 = .ok (.iload_n 2, 1) := by decide +kernel
theorem dX10_exchange_8 : decode cX10_exchange 8 = .ok (.iaload, 1) := by decide +kernel
theorem dX10_exchange_9 : decode cX10_exchange 9 = .ok (.iastore, 1) := by decide +kernel
theorem dX10_exchange_10 : decode cX10_exchange 10 = .ok (.aload_n 1, 1) := by decide +kernel
theorem dX10_exchange_11 : decode cX10_exchange 11 = .ok (.iload_n 2, 1) := by decide +kernel
theorem dX10_exchange_12 : decode cX10_exchange 12 = .ok (.iload_n 3, 1) := by decide +kernel
theorem dX10_exchange_13 : decode cX10_exchange 13 = .ok (.iastore, 1) := by decide +kernel
theorem dX10_exchange_14 : decode cX10_exchange 14 = .ok (.return_, 1) := by decide +kernel
theorem dX10_turn_0 : decode cX10_turn 0 = .ok (.aload_n 0, 1) := by decide +kernel
theorem dX10_turn_1 : decode cX10_turn 1 = .ok (.iload_n 1, 1) := by decide +kernel
theorem dX10_turn_2 : decode cX10_turn 2 = .ok (.invokevirtual 112, 3) := by decide +kernel
theorem dX10_turn_5 : decode cX10_turn 5 = .ok (.ifCond .ne 6, 3) := by decide +kernel
theorem dX10_turn_8 : decode cX10_turn 8 = .ok (.bipush (-101), 2) := by decide +kernel
theorem dX10_turn_10 : decode cX10_turn 10 = .ok (.ireturn, 1) := by decide +kernel
theorem dX10_turn_11 : decode cX10_turn 11 = .ok (.aload_n 0, 1) := by decide +kernel
theorem dX10_turn_12 : decode cX10_turn 12 = .ok (.getfield 13, 3) := by decide +kernel
theorem dX10_turn_15 : decode cX10_turn 15 = .ok (.iload_n 1, 1) := by decide +kernel
theorem dX10_turn_16 : decode cX10_turn 16 = .ok (.iaload, 1) := by decide +kernel
theorem dX10_turn_17 : decode cX10_turn 17 = .ok (.iconst 4, 1) := by decide +kernel
theorem dX10_turn_18 : decode cX10_turn 18 = .ok (.if_icmp .ne 6, 3) := by decide +kernel
theorem dX10_turn_21 : decode cX10_turn 21 = .ok (.bipush (-103), 2) := by decide +kernel
theorem dX10_turn_23 : decode cX10_turn 23 = .ok (.ireturn, 1) := by decide +kernel
theorem dX10_turn_24 : decode cX10_turn 24 = .ok (.aload_n 0, 1) := by decide +kernel
theorem dX10_turn_25 : decode cX10_turn 25 = .ok (.getfield 16, 3) := by decide +kernel
theorem dX10_turn_28 : decode cX10_turn 28 = .ok (.aload_n 0, 1) := by decide +kernel
theorem dX10_turn_29 : decode cX10_turn 29 = .ok (.getfield 19, 3) := by decide +kernel
theorem dX10_turn_32 : decode cX10_turn 32 = .ok (.iload_n 1, 1) := by decide +kernel
theorem dX10_turn_33 : decode cX10_turn 33 = .ok (.invokestatic 126, 3) := by decide +kernel
theorem dX10_turn_36 : decode cX10_turn 36 = .ok (.aload_n 0, 1) := by decide +kernel
theorem dX10_turn_37 : decode cX10_turn 37 = .ok (.getfield 16, 3) := by decide +kernel
theorem dX10_turn_40 : decode cX10_turn 40 = .ok (.iload_n 1, 1) := by decide +kernel
theorem dX10_turn_41 : decode cX10_turn 41 = .ok (.iaload, 1) := by decide +kernel
theorem dX10_turn_42 : decode cX10_turn 42 = .ok (.ireturn, 1) := by decide +kernel
theorem dX10_thief_0 : decode cX10_thief 0 = .ok (.aload_n 0, 1) := by decide +kernel
theorem dX10_thief_1 : decode cX10_thief 1 = .ok (.iload_n 1, 1) := by decide +kernel
theorem dX10_thief_2 : decode cX10_thief 2 = .ok (.invokevirtual 112, 3) := by decide +kernel
theorem dX10_thief_5 : decode cX10_thief 5 = .ok (.ifCond .ne 6, 3) := by decide +kernel
theorem dX10_thief_8 : decode cX10_thief 8 = .ok (.bipush (-101), 2) := by decide +kernel
theorem dX10_thief_10 : decode cX10_thief 10 = .ok (.ireturn, 1) := by decide +kernel
theorem dX10_thief_11 : decode cX10_thief 11 = .ok (.aload_n 0, 1) := by decide +kernel
theorem dX10_thief_12 : decode cX10_thief 12 = .ok (.getfield 105, 3) := by decide +kernel
theorem dX10_thief_15 : decode cX10_thief 15 = .ok (.iconst 3, 1) := by decide +kernel
theorem dX10_thief_16 : decode cX10_thief 16 = .ok (.if_icmp .ge 6, 3) := by decide +kernel
theorem dX10_thief_19 : decode cX10_thief 19 = .ok (.bipush (-103), 2) := by decide +kernel
theorem dX10_thief_21 : decode cX10_thief 21 = .ok (.ireturn, 1) := by decide +kernel
theorem dX10_thief_22 : decode cX10_thief 22 = .ok (.aload_n 0, 1) := by decide +kernel
theorem dX10_thief_23 : decode cX10_thief 23 = .ok (.getfield 22, 3) := by decide +kernel
theorem dX10_thief_26 : decode cX10_thief 26 = .ok (.iload_n 1, 1) := by decide +kernel
theorem dX10_thief_27 : decode cX10_thief 27 = .ok (.iaload, 1) := by decide +kernel
theorem dX10_thief_28 : decode cX10_thief 28 = .ok (.istore_n 2, 1) := by decide +kernel
theorem dX10_thief_29 : decode cX10_thief 29 = .ok (.iload_n 1, 1) := by decide +kernel
theorem dX10_thief_30 : decode cX10_thief 30 = .ok (.istore_n 3, 1) := by decide +kernel
theorem dX10_thief_31 : decode cX10_thief 31 = .ok (.iload_n 3, 1) := by decide +kernel
theorem dX10_thief_32 : decode cX10_thief 32 = .ok (.aload_n 0, 1) := by decide +kernel
theorem dX10_thief_33 : decode cX10_thief 33 = .ok (.getfield 105, 3) := by decide +kernel
theorem dX10_thief_36 : decode cX10_thief 36 = .ok (.iconst 1, 1) := by decide +kernel
theorem dX10_thief_37 : decode cX10_thief 37 = .ok (.isub, 1) := by decide +kernel
theorem dX10_thief_38 : decode cX10_thief 38 = .ok (.if_icmp .ge 79, 3) := by decide +kernel
theorem dX10_thief_41 : decode cX10_thief 41 = .ok (.aload_n 0, 1) := by decide +kernel
theorem dX10_thief_42 : decode cX10_thief 42 = .ok (.getfield 13, 3) := by decide +kernel
theorem dX10_thief_45 : decode cX10_thief 45 = .ok (.iload_n 3, 1) := by decide +kernel
theorem dX10_thief_46 : decode cX10_thief 46 = .ok (.aload_n 0, 1) := by decide +kernel
theorem dX10_thief_47 : decode cX10_thief 47 = .ok (.getfield 13, 3) := by decide +kernel
theorem dX10_thief_50 : decode cX10_thief 50 = .ok (.iload_n 3, 1) := by decide +kernel
theorem dX10_thief_51 : decode cX10_thief 51 = .ok (.iconst 1, 1) := by decide +kernel
theorem dX10_thief_52 : decode cX10_thief 52 = .ok (.iadd, 1) := by decide +kernel
theorem dX10_thief_53 : decode cX10_thief 53 = .ok (.iaload, 1) := by decide +kernel
theorem dX10_thief_54 : decode cX10_thief 54 = .ok (.iastore, 1) := by decide +kernel
theorem dX10_thief_55 : decode cX10_thief 55 = .ok (.aload_n 0, 1) := by decide +kernel
theorem dX10_thief_56 : decode cX10_thief 56 = .ok (.getfield 16, 3) := by decide +kernel
theorem dX10_thief_59 : decode cX10_thief 59 = .ok (.iload_n 3, 1) := by decide +kernel
theorem dX10_thief_60 : decode cX10_thief 60 = .ok (.aload_n 0, 1) := by decide +kernel
theorem dX10_thief_61 : decode cX10_thief 61 = .ok (.getfield 16, 3) := by decide +kernel
theorem dX10_thief_64 : decode cX10_thief 64 = .ok (.iload_n 3, 1) := by decide +kernel
theorem dX10_thief_65 : decode cX10_thief 65 = .ok (.iconst 1, 1) := by decide +kernel
theorem dX10_thief_66 : decode cX10_thief 66 = .ok (.iadd, 1) := by decide +kernel
theorem dX10_thief_67 : decode cX10_thief 67 = .ok (.iaload, 1) := by decide +kernel
theorem dX10_thief_68 : decode cX10_thief 68 = .ok (.iastore, 1) := by decide +kernel
theorem dX10_thief_69 : decode cX10_thief 69 = .ok (.aload_n 0, 1) := by decide +kernel
theorem dX10_thief_70 : decode cX10_thief 70 = .ok (.getfield 19, 3) := by decide +kernel
theorem dX10_thief_73 : decode cX10_thief 73 = .ok (.iload_n 3, 1) := by decide +kernel
theorem dX10_thief_74 : decode cX10_thief 74 = .ok (.aload_n 0, 1) := by decide +kernel
theorem dX10_thief_75 : decode cX10_thief 75 = .ok (.getfield 19, 3) := by decide +kernel
theorem dX10_thief_78 : decode cX10_thief 78 = .ok (.iload_n 3, 1) := by decide +kernel
theorem dX10_thief_79 : decode cX10_thief 79 = .ok (.iconst 1, 1) := by decide +kernel
theorem dX10_thief_80 : decode cX10_thief 80 = .ok (.iadd, 1) := by decide +kernel
theorem dX10_thief_81 : decode cX10_thief 81 = .ok (.iaload, 1) := by decide +kernel
theorem dX10_thief_82 : decode cX10_thief 82 = .ok (.iastore, 1) := by decide +kernel
theorem dX10_thief_83 : decode cX10_thief 83 = .ok (.aload_n 0, 1) := by decide +kernel
theorem dX10_thief_84 : decode cX10_thief 84 = .ok (.getfield 22, 3) := by decide +kernel
theorem dX10_thief_87 : decode cX10_thief 87 = .ok (.iload_n 3, 1) := by decide +kernel
theorem dX10_thief_88 : decode cX10_thief 88 = .ok (.aload_n 0, 1) := by decide +kernel
theorem dX10_thief_89 : decode cX10_thief 89 = .ok (.getfield 22, 3) := by decide +kernel
theorem dX10_thief_92 : decode cX10_thief 92 = .ok (.iload_n 3, 1) := by decide +kernel
theorem dX10_thief_93 : decode cX10_thief 93 = .ok (.iconst 1, 1) := by decide +kernel
theorem dX10_thief_94 : decode cX10_thief 94 = .ok (.iadd, 1) := by decide +kernel
theorem dX10_thief_95 : decode cX10_thief 95 = .ok (.iaload, 1) := by decide +kernel
theorem dX10_thief_96 : decode cX10_thief 96 = .ok (.iastore, 1) := by decide +kernel
theorem dX10_thief_97 : decode cX10_thief 97 = .ok (.aload_n 0, 1) := by decide +kernel
theorem dX10_thief_98 : decode cX10_thief 98 = .ok (.getfield 25, 3) := by decide +kernel
theorem dX10_thief_101 : decode cX10_thief 101 = .ok (.iload_n 3, 1) := by decide +kernel
theorem dX10_thief_102 : decode cX10_thief 102 = .ok (.aload_n 0, 1) := by decide +kernel
theorem dX10_thief_103 : decode cX10_thief 103 = .ok (.getfield 25, 3) := by decide +kernel
theorem dX10_thief_106 : decode cX10_thief 106 = .ok (.iload_n 3, 1) := by decide +kernel
theorem dX10_thief_107 : decode cX10_thief 107 = .ok (.iconst 1, 1) := by decide +kernel
theorem dX10_thief_108 : decode cX10_thief 108 = .ok (.iadd, 1) := by decide +kernel
theorem dX10_thief_109 : decode cX10_thief 109 = .ok (.iaload, 1) := by decide +kernel
theorem dX10_thief_110 : decode cX10_thief 110 = .ok (.iastore, 1) := by decide +kernel
theorem dX10_thief_111 : decode cX10_thief 111 = .ok (.iinc 3 1, 3) := by decide +kernel
theorem dX10_thief_114 : decode cX10_thief 114 = .ok (.goto (-83), 3) := by decide +kernel
theorem dX10_thief_117 : decode cX10_thief 117 = .ok (.aload_n 0, 1) := by decide +kernel
theorem dX10_thief_118 : decode cX10_thief 118 = .ok (.dup, 1) := by decide +kernel
theorem dX10_thief_119 : decode cX10_thief 119 = .ok (.getfield 105, 3) := by decide +kernel
theorem dX10_thief_122 : decode cX10_thief 122 = .ok (.iconst 1, 1) := by decide +kernel
theorem dX10_thief_123 : decode cX10_thief 123 = .ok (.isub, 1) := by decide +kernel
theorem dX10_thief_124 : decode cX10_thief 124 = .ok (.putfield 105, 3) := by decide +kernel
theorem dX10_thief_127 : decode cX10_thief 127 = .ok (.iconst 0, 1) := by decide +kernel
theorem dX10_thief_128 : decode cX10_thief 128 = .ok (.istore_n 3, 1) := by decide +kernel
theorem dX10_thief_129 : decode cX10_thief 129 = .ok (.iload_n 3, 1) := by decide +kernel
theorem dX10_thief_130 : decode cX10_thief 130 = .ok (.aload_n 0, 1) := by decide +kernel
theorem dX10_thief_131 : decode cX10_thief 131 = .ok (.getfield 105, 3) := by decide +kernel
theorem dX10_thief_134 : decode cX10_thief 134 = .ok (.if_icmp .ge 33, 3) := by decide +kernel
theorem dX10_thief_137 : decode cX10_thief 137 = .ok (.aload_n 0, 1) := by decide +kernel
theorem dX10_thief_138 : decode cX10_thief 138 = .ok (.getfield 22, 3) := by decide +kernel
theorem dX10_thief_141 : decode cX10_thief 141 = .ok (.iload_n 3, 1) := by decide +kernel
theorem dX10_thief_142 : decode cX10_thief 142 = .ok (.dup2, 1) := by decide +kernel
theorem dX10_thief_143 : decode cX10_thief 143 = .ok (.iaload, 1) := by decide +kernel
theorem dX10_thief_144 : decode cX10_thief 144 = .ok (.aload_n 0, 1) := by decide +kernel
theorem dX10_thief_145 : decode cX10_thief 145 = .ok (.getfield 22, 3) := by decide +kernel
theorem dX10_thief_148 : decode cX10_thief 148 = .ok (.iload_n 3, 1) := by decide +kernel
theorem dX10_thief_149 : decode cX10_thief 149 = .ok (.iaload, 1) := by decide +kernel
theorem dX10_thief_150 : decode cX10_thief 150 = .ok (.iload_n 2, 1) := by decide +kernel
theorem dX10_thief_151 : decode cX10_thief 151 = .ok (.if_icmp .le 7, 3) := by decide +kernel
theorem dX10_thief_154 : decode cX10_thief 154 = .ok (.iconst 1, 1) := by decide +kernel
theorem dX10_thief_155 : decode cX10_thief 155 = .ok (.goto 4, 3) := by decide +kernel
theorem dX10_thief_158 : decode cX10_thief 158 = .ok (.iconst 0, 1) := by decide +kernel
theorem dX10_thief_159 : decode cX10_thief 159 = .ok (.isub, 1) := by decide +kernel
theorem dX10_thief_160 : decode cX10_thief 160 = .ok (.iastore, 1) := by decide +kernel
theorem dX10_thief_161 : decode cX10_thief 161 = .ok (.iinc 3 1, 3) := by decide +kernel
theorem dX10_thief_164 : decode cX10_thief 164 = .ok (.goto (-35), 3) := by decide +kernel
theorem dX10_thief_167 : decode cX10_thief 167 = .ok (.aload_n 0, 1) := by decide +kernel
theorem dX10_thief_168 : decode cX10_thief 168 = .ok (.getfield 105, 3) := by decide +kernel
theorem dX10_thief_171 : decode cX10_thief 171 = .ok (.ireturn, 1) := by decide +kernel
theorem dX10_lacks_0 : decode cX10_lacks 0 = .ok (.aload_n 0, 1) := by decide +kernel
theorem dX10_lacks_1 : decode cX10_lacks 1 = .ok (.getfield 105, 3) := by decide +kernel
theorem dX10_lacks_4 : decode cX10_lacks 4 = .ok (.iconst 2, 1) := by decide +kernel
theorem dX10_lacks_5 : decode cX10_lacks 5 = .ok (.if_icmp .ge 7, 3) := by decide +kernel
theorem dX10_lacks_8 : decode cX10_lacks 8 = .ok (.iconst 1, 1) := by decide +kernel
theorem dX10_lacks_9 : decode cX10_lacks 9 = .ok (.goto 4, 3) := by decide +kernel
theorem dX10_lacks_12 : decode cX10_lacks 12 = .ok (.iconst 0, 1) := by decide +kernel
theorem dX10_lacks_13 : decode cX10_lacks 13 = .ok (.ireturn, 1) := by decide +kernel
theorem dX10_readOrder_0 : decode cX10_readOrder 0 = .ok (.iload_n 1, 1) := by decide +kernel
theorem dX10_readOrder_1 : decode cX10_readOrder 1 = .ok (.istore_n 2, 1) := by decide +kernel
theorem dX10_readOrder_2 : decode cX10_readOrder 2 = .ok (.iconst 0, 1) := by decide +kernel
theorem dX10_readOrder_3 : decode cX10_readOrder 3 = .ok (.istore_n 3, 1) := by decide +kernel
theorem dX10_readOrder_4 : decode cX10_readOrder 4 = .ok (.iconst 0, 1) := by decide +kernel
theorem dX10_readOrder_5 : decode cX10_readOrder 5 = .ok (.istore 4, 2) := by decide +kernel
theorem dX10_readOrder_7 : decode cX10_readOrder 7 = .ok (.iload 4, 2) := by decide +kernel
theorem dX10_readOrder_9 : decode cX10_readOrder 9 = .ok (.aload_n 0, 1) := by decide +kernel
theorem dX10_readOrder_10 : decode cX10_readOrder 10 = .ok (.getfield 105, 3) := by decide +kernel
theorem dX10_readOrder_13 : decode cX10_readOrder 13 = .ok (.if_icmp .ge 36, 3) := by decide +kernel
theorem dX10_readOrder_16 : decode cX10_readOrder 16 = .ok (.aload_n 0, 1) := by decide +kernel
theorem dX10_readOrder_17 : decode cX10_readOrder 17 = .ok (.getfield 31, 3) := by decide +kernel
theorem dX10_readOrder_20 : decode cX10_readOrder 20 = .ok (.iload 4, 2) := by decide +kernel
theorem dX10_readOrder_22 : decode cX10_readOrder 22 = .ok (.iload_n 2, 1) := by decide +kernel
theorem dX10_readOrder_23 : decode cX10_readOrder 23 = .ok (.bipush 7, 2) := by decide +kernel
theorem dX10_readOrder_25 : decode cX10_readOrder 25 = .ok (.iand, 1) := by decide +kernel
theorem dX10_readOrder_26 : decode cX10_readOrder 26 = .ok (.iastore, 1) := by decide +kernel
theorem dX10_readOrder_27 : decode cX10_readOrder 27 = .ok (.iload_n 3, 1) := by decide +kernel
theorem dX10_readOrder_28 : decode cX10_readOrder 28 = .ok (.iconst 1, 1) := by decide +kernel
theorem dX10_readOrder_29 : decode cX10_readOrder 29 = .ok (.aload_n 0, 1) := by decide +kernel
theorem dX10_readOrder_30 : decode cX10_readOrder 30 = .ok (.getfield 31, 3) := by decide +kernel
theorem dX10_readOrder_33 : decode cX10_readOrder 33 = .ok (.iload 4, 2) := by decide +kernel
theorem dX10_readOrder_35 : decode cX10_readOrder 35 = .ok (.iaload, 1) := by decide +kernel
theorem dX10_readOrder_36 : decode cX10_readOrder 36 = .ok (.ishl, 1) := by decide +kernel
theorem dX10_readOrder_37 : decode cX10_readOrder 37 = .ok (.ior, 1) := by decide +kernel
theorem dX10_readOrder_38 : decode cX10_readOrder 38 = .ok (.istore_n 3, 1) := by decide +kernel
theorem dX10_readOrder_39 : decode cX10_readOrder 39 = .ok (.iload_n 2, 1) := by decide +kernel
theorem dX10_readOrder_40 : decode cX10_readOrder 40 = .ok (.iconst 3, 1) := by decide +kernel
theorem dX10_readOrder_41 : decode cX10_readOrder 41 = .ok (.ishr, 1) := by decide +kernel
theorem dX10_readOrder_42 : decode cX10_readOrder 42 = .ok (.istore_n 2, 1) := by decide +kernel
theorem dX10_readOrder_43 : decode cX10_readOrder 43 = .ok (.iinc 4 1, 3) := by decide +kernel
theorem dX10_readOrder_46 : decode cX10_readOrder 46 = .ok (.goto (-39), 3) := by decide +kernel
theorem dX10_readOrder_49 : decode cX10_readOrder 49 = .ok (.iload_n 1, 1) := by decide +kernel
theorem dX10_readOrder_50 : decode cX10_readOrder 50 = .ok (.ifCond .lt 23, 3) := by decide +kernel
theorem dX10_readOrder_53 : decode cX10_readOrder 53 = .ok (.iload_n 2, 1) := by decide +kernel
theorem dX10_readOrder_54 : decode cX10_readOrder 54 = .ok (.ifCond .ne 19, 3) := by decide +kernel
theorem dX10_readOrder_57 : decode cX10_readOrder 57 = .ok (.iload_n 3, 1) := by decide +kernel
theorem dX10_readOrder_58 : decode cX10_readOrder 58 = .ok (.iconst 1, 1) := by decide +kernel
theorem dX10_readOrder_59 : decode cX10_readOrder 59 = .ok (.aload_n 0, 1) := by decide +kernel
theorem dX10_readOrder_60 : decode cX10_readOrder 60 = .ok (.getfield 105, 3) := by decide +kernel
theorem dX10_readOrder_63 : decode cX10_readOrder 63 = .ok (.ishl, 1) := by decide +kernel
theorem dX10_readOrder_64 : decode cX10_readOrder 64 = .ok (.iconst 1, 1) := by decide +kernel
theorem dX10_readOrder_65 : decode cX10_readOrder 65 = .ok (.isub, 1) := by decide +kernel
theorem dX10_readOrder_66 : decode cX10_readOrder 66 = .ok (.if_icmp .ne 7, 3) := by decide +kernel
theorem dX10_readOrder_69 : decode cX10_readOrder 69 = .ok (.iconst 1, 1) := by decide +kernel
theorem dX10_readOrder_70 : decode cX10_readOrder 70 = .ok (.goto 4, 3) := by decide +kernel
theorem dX10_readOrder_73 : decode cX10_readOrder 73 = .ok (.iconst 0, 1) := by decide +kernel
theorem dX10_readOrder_74 : decode cX10_readOrder 74 = .ok (.ireturn, 1) := by decide +kernel
theorem dX10_numberOf_0 : decode cX10_numberOf 0 = .ok (.iconst 0, 1) := by decide +kernel
theorem dX10_numberOf_1 : decode cX10_numberOf 1 = .ok (.istore_n 1, 1) := by decide +kernel
theorem dX10_numberOf_2 : decode cX10_numberOf 2 = .ok (.aload_n 0, 1) := by decide +kernel
theorem dX10_numberOf_3 : decode cX10_numberOf 3 = .ok (.getfield 105, 3) := by decide +kernel
theorem dX10_numberOf_6 : decode cX10_numberOf 6 = .ok (.iconst 1, 1) := by decide +kernel
theorem dX10_numberOf_7 : decode cX10_numberOf 7 = .ok (.isub, 1) := by decide +kernel
theorem dX10_numberOf_8 : decode cX10_numberOf 8 = .ok (.istore_n 2, 1) := by decide +kernel
theorem dX10_numberOf_9 : decode cX10_numberOf 9 = .ok (.iload_n 2, 1) := by decide +kernel
theorem dX10_numberOf_10 : decode cX10_numberOf 10 = .ok (.ifCond .lt 21, 3) := by decide +kernel
theorem dX10_numberOf_13 : decode cX10_numberOf 13 = .ok (.bipush 8, 2) := by decide +kernel
theorem dX10_numberOf_15 : decode cX10_numberOf 15 = .ok (.iload_n 1, 1) := by decide +kernel
theorem dX10_numberOf_16 : decode cX10_numberOf 16 = .ok (.imul, 1) := by decide +kernel
theorem dX10_numberOf_17 : decode cX10_numberOf 17 = .ok (.aload_n 0, 1) := by decide +kernel
theorem dX10_numberOf_18 : decode cX10_numberOf 18 = .ok (.getfield 31, 3) := by decide +kernel
theorem dX10_numberOf_21 : decode cX10_numberOf 21 = .ok (.iload_n 2, 1) := by decide +kernel
theorem dX10_numberOf_22 : decode cX10_numberOf 22 = .ok (.iaload, 1) := by decide +kernel
theorem dX10_numberOf_23 : decode cX10_numberOf 23 = .ok (.iadd, 1) := by decide +kernel
theorem dX10_numberOf_24 : decode cX10_numberOf 24 = .ok (.istore_n 1, 1) := by decide +kernel
theorem dX10_numberOf_25 : decode cX10_numberOf 25 = .ok (.iinc 2 (-1), 3) := by decide +kernel
theorem dX10_numberOf_28 : decode cX10_numberOf 28 = .ok (.goto (-19), 3) := by decide +kernel
theorem dX10_numberOf_31 : decode cX10_numberOf 31 = .ok (.iload_n 1, 1) := by decide +kernel
theorem dX10_numberOf_32 : decode cX10_numberOf 32 = .ok (.ireturn, 1) := by decide +kernel
theorem dX10_firstOrder_0 : decode cX10_firstOrder 0 = .ok (.iconst 0, 1) := by decide +kernel
theorem dX10_firstOrder_1 : decode cX10_firstOrder 1 = .ok (.istore_n 1, 1) := by decide +kernel
theorem dX10_firstOrder_2 : decode cX10_firstOrder 2 = .ok (.iload_n 1, 1) := by decide +kernel
theorem dX10_firstOrder_3 : decode cX10_firstOrder 3 = .ok (.aload_n 0, 1) := by decide +kernel
theorem dX10_firstOrder_4 : decode cX10_firstOrder 4 = .ok (.getfield 105, 3) := by decide +kernel
theorem dX10_firstOrder_7 : decode cX10_firstOrder 7 = .ok (.if_icmp .ge 16, 3) := by decide +kernel
theorem dX10_firstOrder_10 : decode cX10_firstOrder 10 = .ok (.aload_n 0, 1) := by decide +kernel
theorem dX10_firstOrder_11 : decode cX10_firstOrder 11 = .ok (.getfield 31, 3) := by decide +kernel
theorem dX10_firstOrder_14 : decode cX10_firstOrder 14 = .ok (.iload_n 1, 1) := by decide +kernel
theorem dX10_firstOrder_15 : decode cX10_firstOrder 15 = .ok (.iload_n 1, 1) := by decide +kernel
theorem dX10_firstOrder_16 : decode cX10_firstOrder 16 = .ok (.iastore, 1) := by decide +kernel
theorem dX10_firstOrder_17 : decode cX10_firstOrder 17 = .ok (.iinc 1 1, 3) := by decide +kernel
theorem dX10_firstOrder_20 : decode cX10_firstOrder 20 = .ok (.goto (-18), 3) := by decide +kernel
theorem dX10_firstOrder_23 : decode cX10_firstOrder 23 = .ok (.return_, 1) := by decide +kernel
theorem dX10_nextOrder_0 : decode cX10_nextOrder 0 = .ok (.aload_n 0, 1) := by decide +kernel
theorem dX10_nextOrder_1 : decode cX10_nextOrder 1 = .ok (.getfield 105, 3) := by decide +kernel
theorem dX10_nextOrder_4 : decode cX10_nextOrder 4 = .ok (.iconst 2, 1) := by decide +kernel
theorem dX10_nextOrder_5 : decode cX10_nextOrder 5 = .ok (.isub, 1) := by decide +kernel
theorem dX10_nextOrder_6 : decode cX10_nextOrder 6 = .ok (.istore_n 1, 1) := by decide +kernel
theorem dX10_nextOrder_7 : decode cX10_nextOrder 7 = .ok (.iload_n 1, 1) := by decide +kernel
theorem dX10_nextOrder_8 : decode cX10_nextOrder 8 = .ok (.ifCond .lt 26, 3) := by decide +kernel
theorem dX10_nextOrder_11 : decode cX10_nextOrder 11 = .ok (.aload_n 0, 1) := by decide +kernel
theorem dX10_nextOrder_12 : decode cX10_nextOrder 12 = .ok (.getfield 31, 3) := by decide +kernel
theorem dX10_nextOrder_15 : decode cX10_nextOrder 15 = .ok (.iload_n 1, 1) := by decide +kernel
theorem dX10_nextOrder_16 : decode cX10_nextOrder 16 = .ok (.iaload, 1) := by decide +kernel
theorem dX10_nextOrder_17 : decode cX10_nextOrder 17 = .ok (.aload_n 0, 1) := by decide +kernel
theorem dX10_nextOrder_18 : decode cX10_nextOrder 18 = .ok (.getfield 31, 3) := by decide +kernel
theorem dX10_nextOrder_21 : decode cX10_nextOrder 21 = .ok (.iload_n 1, 1) := by decide +kernel
theorem dX10_nextOrder_22 : decode cX10_nextOrder 22 = .ok (.iconst 1, 1) := by decide +kernel
theorem dX10_nextOrder_23 : decode cX10_nextOrder 23 = .ok (.iadd, 1) := by decide +kernel
theorem dX10_nextOrder_24 : decode cX10_nextOrder 24 = .ok (.iaload, 1) := by decide +kernel
theorem dX10_nextOrder_25 : decode cX10_nextOrder 25 = .ok (.if_icmp .le 9, 3) := by decide +kernel
theorem dX10_nextOrder_28 : decode cX10_nextOrder 28 = .ok (.iinc 1 (-1), 3) := by decide +kernel
theorem dX10_nextOrder_31 : decode cX10_nextOrder 31 = .ok (.goto (-24), 3) := by decide +kernel
theorem dX10_nextOrder_34 : decode cX10_nextOrder 34 = .ok (.iload_n 1, 1) := by decide +kernel
theorem dX10_nextOrder_35 : decode cX10_nextOrder 35 = .ok (.ifCond .ge 5, 3) := by decide +kernel
theorem dX10_nextOrder_38 : decode cX10_nextOrder 38 = .ok (.iconst 0, 1) := by decide +kernel
theorem dX10_nextOrder_39 : decode cX10_nextOrder 39 = .ok (.ireturn, 1) := by decide +kernel
theorem dX10_nextOrder_40 : decode cX10_nextOrder 40 = .ok (.aload_n 0, 1) := by decide +kernel
theorem dX10_nextOrder_41 : decode cX10_nextOrder 41 = .ok (.getfield 105, 3) := by decide +kernel
theorem dX10_nextOrder_44 : decode cX10_nextOrder 44 = .ok (.iconst 1, 1) := by decide +kernel
theorem dX10_nextOrder_45 : decode cX10_nextOrder 45 = .ok (.isub, 1) := by decide +kernel
theorem dX10_nextOrder_46 : decode cX10_nextOrder 46 = .ok (.istore_n 2, 1) := by decide +kernel
theorem dX10_nextOrder_47 : decode cX10_nextOrder 47 = .ok (.aload_n 0, 1) := by decide +kernel
theorem dX10_nextOrder_48 : decode cX10_nextOrder 48 = .ok (.getfield 31, 3) := by decide +kernel
theorem dX10_nextOrder_51 : decode cX10_nextOrder 51 = .ok (.iload_n 2, 1) := by decide +kernel
theorem dX10_nextOrder_52 : decode cX10_nextOrder 52 = .ok (.iaload, 1) := by decide +kernel
theorem dX10_nextOrder_53 : decode cX10_nextOrder 53 = .ok (.aload_n 0, 1) := by decide +kernel
theorem dX10_nextOrder_54 : decode cX10_nextOrder 54 = .ok (.getfield 31, 3) := by decide +kernel
theorem dX10_nextOrder_57 : decode cX10_nextOrder 57 = .ok (.iload_n 1, 1) := by decide +kernel
theorem dX10_nextOrder_58 : decode cX10_nextOrder 58 = .ok (.iaload, 1) := by decide +kernel
theorem dX10_nextOrder_59 : decode cX10_nextOrder 59 = .ok (.if_icmp .ge 9, 3) := by decide +kernel
theorem dX10_nextOrder_62 : decode cX10_nextOrder 62 = .ok (.iinc 2 (-1), 3) := by decide +kernel
theorem dX10_nextOrder_65 : decode cX10_nextOrder 65 = .ok (.goto (-18), 3) := by decide +kernel
theorem dX10_nextOrder_68 : decode cX10_nextOrder 68 = .ok (.aload_n 0, 1) := by decide +kernel
theorem dX10_nextOrder_69 : decode cX10_nextOrder 69 = .ok (.getfield 31, 3) := by decide +kernel
theorem dX10_nextOrder_72 : decode cX10_nextOrder 72 = .ok (.iload_n 1, 1) := by decide +kernel
theorem dX10_nextOrder_73 : decode cX10_nextOrder 73 = .ok (.iaload, 1) := by decide +kernel
theorem dX10_nextOrder_74 : decode cX10_nextOrder 74 = .ok (.istore_n 3, 1) := by decide +kernel
theorem dX10_nextOrder_75 : decode cX10_nextOrder 75 = .ok (.aload_n 0, 1) := by decide +kernel
theorem dX10_nextOrder_76 : decode cX10_nextOrder 76 = .ok (.getfield 31, 3) := by decide +kernel
theorem dX10_nextOrder_79 : decode cX10_nextOrder 79 = .ok (.iload_n 1, 1) := by decide +kernel
theorem dX10_nextOrder_80 : decode cX10_nextOrder 80 = .ok (.aload_n 0, 1) := by decide +kernel
theorem dX10_nextOrder_81 : decode cX10_nextOrder 81 = .ok (.getfield 31, 3) := by decide +kernel
theorem dX10_nextOrder_84 : decode cX10_nextOrder 84 = .ok (.iload_n 2, 1) := by decide +kernel
theorem dX10_nextOrder_85 : decode cX10_nextOrder 85 = .ok (.iaload, 1) := by decide +kernel
theorem dX10_nextOrder_86 : decode cX10_nextOrder 86 = .ok (.iastore, 1) := by decide +kernel
theorem dX10_nextOrder_87 : decode cX10_nextOrder 87 = .ok (.aload_n 0, 1) := by decide +kernel
theorem dX10_nextOrder_88 : decode cX10_nextOrder 88 = .ok (.getfield 31, 3) := by decide +kernel
theorem dX10_nextOrder_91 : decode cX10_nextOrder 91 = .ok (.iload_n 2, 1) := by decide +kernel
theorem dX10_nextOrder_92 : decode cX10_nextOrder 92 = .ok (.iload_n 3, 1) := by decide +kernel
theorem dX10_nextOrder_93 : decode cX10_nextOrder 93 = .ok (.iastore, 1) := by decide +kernel
theorem dX10_nextOrder_94 : decode cX10_nextOrder 94 = .ok (.aload_n 0, 1) := by decide +kernel
theorem dX10_nextOrder_95 : decode cX10_nextOrder 95 = .ok (.getfield 105, 3) := by decide +kernel
theorem dX10_nextOrder_98 : decode cX10_nextOrder 98 = .ok (.iconst 1, 1) := by decide +kernel
theorem dX10_nextOrder_99 : decode cX10_nextOrder 99 = .ok (.isub, 1) := by decide +kernel
theorem dX10_nextOrder_100 : decode cX10_nextOrder 100 = .ok (.istore 4, 2) := by decide +kernel
theorem dX10_nextOrder_102 : decode cX10_nextOrder 102 = .ok (.iload_n 1, 1) := by decide +kernel
theorem dX10_nextOrder_103 : decode cX10_nextOrder 103 = .ok (.iconst 1, 1) := by decide +kernel
theorem dX10_nextOrder_104 : decode cX10_nextOrder 104 = .ok (.iadd, 1) := by decide +kernel
theorem dX10_nextOrder_105 : decode cX10_nextOrder 105 = .ok (.istore 5, 2) := by decide +kernel
theorem dX10_nextOrder_107 : decode cX10_nextOrder 107 = .ok (.iload 5, 2) := by decide +kernel
theorem dX10_nextOrder_109 : decode cX10_nextOrder 109 = .ok (.iload 4, 2) := by decide +kernel
theorem dX10_nextOrder_111 : decode cX10_nextOrder 111 = .ok (.if_icmp .ge 42, 3) := by decide +kernel
theorem dX10_nextOrder_114 : decode cX10_nextOrder 114 = .ok (.aload_n 0, 1) := by decide +kernel
theorem dX10_nextOrder_115 : decode cX10_nextOrder 115 = .ok (.getfield 31, 3) := by decide +kernel
theorem dX10_nextOrder_118 : decode cX10_nextOrder 118 = .ok (.iload 5, 2) := by decide +kernel
theorem dX10_nextOrder_120 : decode cX10_nextOrder 120 = .ok (.iaload, 1) := by decide +kernel
theorem dX10_nextOrder_121 : decode cX10_nextOrder 121 = .ok (.istore_n 3, 1) := by decide +kernel
theorem dX10_nextOrder_122 : decode cX10_nextOrder 122 = .ok (.aload_n 0, 1) := by decide +kernel
theorem dX10_nextOrder_123 : decode cX10_nextOrder 123 = .ok (.getfield 31, 3) := by decide +kernel
theorem dX10_nextOrder_126 : decode cX10_nextOrder 126 = .ok (.iload 5, 2) := by decide +kernel
theorem dX10_nextOrder_128 : decode cX10_nextOrder 128 = .ok (.aload_n 0, 1) := by decide +kernel
theorem dX10_nextOrder_129 : decode cX10_nextOrder 129 = .ok (.getfield 31, 3) := by decide +kernel
theorem dX10_nextOrder_132 : decode cX10_nextOrder 132 = .ok (.iload 4, 2) := by decide +kernel
theorem dX10_nextOrder_134 : decode cX10_nextOrder 134 = .ok (.iaload, 1) := by decide +kernel
theorem dX10_nextOrder_135 : decode cX10_nextOrder 135 = .ok (.iastore, 1) := by decide +kernel
theorem dX10_nextOrder_136 : decode cX10_nextOrder 136 = .ok (.aload_n 0, 1) := by decide +kernel
theorem dX10_nextOrder_137 : decode cX10_nextOrder 137 = .ok (.getfield 31, 3) := by decide +kernel
theorem dX10_nextOrder_140 : decode cX10_nextOrder 140 = .ok (.iload 4, 2) := by decide +kernel
theorem dX10_nextOrder_142 : decode cX10_nextOrder 142 = .ok (.iload_n 3, 1) := by decide +kernel
theorem dX10_nextOrder_143 : decode cX10_nextOrder 143 = .ok (.iastore, 1) := by decide +kernel
theorem dX10_nextOrder_144 : decode cX10_nextOrder 144 = .ok (.iinc 4 (-1), 3) := by decide +kernel
theorem dX10_nextOrder_147 : decode cX10_nextOrder 147 = .ok (.iinc 5 1, 3) := by decide +kernel
theorem dX10_nextOrder_150 : decode cX10_nextOrder 150 = .ok (.goto (-43), 3) := by decide +kernel
theorem dX10_nextOrder_153 : decode cX10_nextOrder 153 = .ok (.iconst 1, 1) := by decide +kernel
theorem dX10_nextOrder_154 : decode cX10_nextOrder 154 = .ok (.ireturn, 1) := by decide +kernel
theorem dX10_size_0 : decode cX10_size 0 = .ok (.iload_n 0, 1) := by decide +kernel
theorem dX10_size_1 : decode cX10_size 1 = .ok (.ifCond .ge 8, 3) := by decide +kernel
theorem dX10_size_4 : decode cX10_size 4 = .ok (.iload_n 0, 1) := by decide +kernel
theorem dX10_size_5 : decode cX10_size 5 = .ok (.ineg, 1) := by decide +kernel
theorem dX10_size_6 : decode cX10_size 6 = .ok (.goto 4, 3) := by decide +kernel
theorem dX10_size_9 : decode cX10_size 9 = .ok (.iload_n 0, 1) := by decide +kernel
theorem dX10_size_10 : decode cX10_size 10 = .ok (.ireturn, 1) := by decide +kernel
theorem dX10_isLawful_0 : decode cX10_isLawful 0 = .ok (.iconst 1, 1) := by decide +kernel
theorem dX10_isLawful_1 : decode cX10_isLawful 1 = .ok (.istore_n 2, 1) := by decide +kernel
theorem dX10_isLawful_2 : decode cX10_isLawful 2 = .ok (.iconst 0, 1) := by decide +kernel
theorem dX10_isLawful_3 : decode cX10_isLawful 3 = .ok (.istore_n 3, 1) := by decide +kernel
theorem dX10_isLawful_4 : decode cX10_isLawful 4 = .ok (.iload_n 3, 1) := by decide +kernel
theorem dX10_isLawful_5 : decode cX10_isLawful 5 = .ok (.aload_n 0, 1) := by decide +kernel
theorem dX10_isLawful_6 : decode cX10_isLawful 6 = .ok (.getfield 105, 3) := by decide +kernel
theorem dX10_isLawful_9 : decode cX10_isLawful 9 = .ok (.if_icmp .ge 160, 3) := by decide +kernel
theorem dX10_isLawful_12 : decode cX10_isLawful 12 = .ok (.iload_n 3, 1) := by decide +kernel
theorem dX10_isLawful_13 : decode cX10_isLawful 13 = .ok (.ifCond .le 24, 3) := by decide +kernel
theorem dX10_isLawful_16 : decode cX10_isLawful 16 = .ok (.aload_n 0, 1) := by decide +kernel
theorem dX10_isLawful_17 : decode cX10_isLawful 17 = .ok (.getfield 13, 3) := by decide +kernel
theorem dX10_isLawful_20 : decode cX10_isLawful 20 = .ok (.aload_n 0, 1) := by decide +kernel
theorem dX10_isLawful_21 : decode cX10_isLawful 21 = .ok (.getfield 31, 3) := by decide +kernel
theorem dX10_isLawful_24 : decode cX10_isLawful 24 = .ok (.iload_n 3, 1) := by decide +kernel
theorem dX10_isLawful_25 : decode cX10_isLawful 25 = .ok (.iconst 1, 1) := by decide +kernel
theorem dX10_isLawful_26 : decode cX10_isLawful 26 = .ok (.isub, 1) := by decide +kernel
theorem dX10_isLawful_27 : decode cX10_isLawful 27 = .ok (.iaload, 1) := by decide +kernel
theorem dX10_isLawful_28 : decode cX10_isLawful 28 = .ok (.iaload, 1) := by decide +kernel
theorem dX10_isLawful_29 : decode cX10_isLawful 29 = .ok (.iconst 3, 1) := by decide +kernel
theorem dX10_isLawful_30 : decode cX10_isLawful 30 = .ok (.if_icmp .ne 7, 3) := by decide +kernel
theorem dX10_isLawful_33 : decode cX10_isLawful 33 = .ok (.iconst 1, 1) := by decide +kernel
theorem dX10_isLawful_34 : decode cX10_isLawful 34 = .ok (.goto 4, 3) := by decide +kernel
theorem dX10_isLawful_37 : decode cX10_isLawful 37 = .ok (.iconst 0, 1) := by decide +kernel
theorem dX10_isLawful_38 : decode cX10_isLawful 38 = .ok (.istore 4, 2) := by decide +kernel
theorem dX10_isLawful_40 : decode cX10_isLawful 40 = .ok (.iload_n 3, 1) := by decide +kernel
theorem dX10_isLawful_41 : decode cX10_isLawful 41 = .ok (.aload_n 0, 1) := by decide +kernel
theorem dX10_isLawful_42 : decode cX10_isLawful 42 = .ok (.getfield 105, 3) := by decide +kernel
theorem dX10_isLawful_45 : decode cX10_isLawful 45 = .ok (.iconst 1, 1) := by decide +kernel
theorem dX10_isLawful_46 : decode cX10_isLawful 46 = .ok (.isub, 1) := by decide +kernel
theorem dX10_isLawful_47 : decode cX10_isLawful 47 = .ok (.if_icmp .ge 24, 3) := by decide +kernel
theorem dX10_isLawful_50 : decode cX10_isLawful 50 = .ok (.aload_n 0, 1) := by decide +kernel
theorem dX10_isLawful_51 : decode cX10_isLawful 51 = .ok (.getfield 13, 3) := by decide +kernel
theorem dX10_isLawful_54 : decode cX10_isLawful 54 = .ok (.aload_n 0, 1) := by decide +kernel
theorem dX10_isLawful_55 : decode cX10_isLawful 55 = .ok (.getfield 31, 3) := by decide +kernel
theorem dX10_isLawful_58 : decode cX10_isLawful 58 = .ok (.iload_n 3, 1) := by decide +kernel
theorem dX10_isLawful_59 : decode cX10_isLawful 59 = .ok (.iconst 1, 1) := by decide +kernel
theorem dX10_isLawful_60 : decode cX10_isLawful 60 = .ok (.iadd, 1) := by decide +kernel
theorem dX10_isLawful_61 : decode cX10_isLawful 61 = .ok (.iaload, 1) := by decide +kernel
theorem dX10_isLawful_62 : decode cX10_isLawful 62 = .ok (.iaload, 1) := by decide +kernel
theorem dX10_isLawful_63 : decode cX10_isLawful 63 = .ok (.iconst 3, 1) := by decide +kernel
theorem dX10_isLawful_64 : decode cX10_isLawful 64 = .ok (.if_icmp .ne 7, 3) := by decide +kernel
theorem dX10_isLawful_67 : decode cX10_isLawful 67 = .ok (.iconst 1, 1) := by decide +kernel
theorem dX10_isLawful_68 : decode cX10_isLawful 68 = .ok (.goto 4, 3) := by decide +kernel
theorem dX10_isLawful_71 : decode cX10_isLawful 71 = .ok (.iconst 0, 1) := by decide +kernel
theorem dX10_isLawful_72 : decode cX10_isLawful 72 = .ok (.istore 5, 2) := by decide +kernel
theorem dX10_isLawful_74 : decode cX10_isLawful 74 = .ok (.iload_n 2, 1) := by decide +kernel
theorem dX10_isLawful_75 : decode cX10_isLawful 75 = .ok (.ifCond .eq 39, 3) := by decide +kernel
theorem dX10_isLawful_78 : decode cX10_isLawful 78 = .ok (.aload_n 0, 1) := by decide +kernel
theorem dX10_isLawful_79 : decode cX10_isLawful 79 = .ok (.getfield 95, 3) := by decide +kernel
theorem dX10_isLawful_82 : decode cX10_isLawful 82 = .ok (.ifCond .eq 28, 3) := by decide +kernel
theorem dX10_isLawful_85 : decode cX10_isLawful 85 = .ok (.aload_n 0, 1) := by decide +kernel
theorem dX10_isLawful_86 : decode cX10_isLawful 86 = .ok (.getfield 13, 3) := by decide +kernel
theorem dX10_isLawful_89 : decode cX10_isLawful 89 = .ok (.aload_n 0, 1) := by decide +kernel
theorem dX10_isLawful_90 : decode cX10_isLawful 90 = .ok (.getfield 31, 3) := by decide +kernel
theorem dX10_isLawful_93 : decode cX10_isLawful 93 = .ok (.iload_n 3, 1) := by decide +kernel
theorem dX10_isLawful_94 : decode cX10_isLawful 94 = .ok (.iaload, 1) := by decide +kernel
theorem dX10_isLawful_95 : decode cX10_isLawful 95 = .ok (.iaload, 1) := by decide +kernel
theorem dX10_isLawful_96 : decode cX10_isLawful 96 = .ok (.iconst 3, 1) := by decide +kernel
theorem dX10_isLawful_97 : decode cX10_isLawful 97 = .ok (.if_icmp .ne 13, 3) := by decide +kernel
theorem dX10_isLawful_100 : decode cX10_isLawful 100 = .ok (.iload 4, 2) := by decide +kernel
theorem dX10_isLawful_102 : decode cX10_isLawful 102 = .ok (.ifCond .ne 8, 3) := by decide +kernel
theorem dX10_isLawful_105 : decode cX10_isLawful 105 = .ok (.iload 5, 2) := by decide +kernel
theorem dX10_isLawful_107 : decode cX10_isLawful 107 = .ok (.ifCond .eq 7, 3) := by decide +kernel
theorem dX10_isLawful_110 : decode cX10_isLawful 110 = .ok (.iconst 1, 1) := by decide +kernel
theorem dX10_isLawful_111 : decode cX10_isLawful 111 = .ok (.goto 4, 3) := by decide +kernel
theorem dX10_isLawful_114 : decode cX10_isLawful 114 = .ok (.iconst 0, 1) := by decide +kernel
theorem dX10_isLawful_115 : decode cX10_isLawful 115 = .ok (.istore_n 2, 1) := by decide +kernel
theorem dX10_isLawful_116 : decode cX10_isLawful 116 = .ok (.iload_n 2, 1) := by decide +kernel
theorem dX10_isLawful_117 : decode cX10_isLawful 117 = .ok (.ifCond .eq 44, 3) := by decide +kernel
theorem dX10_isLawful_120 : decode cX10_isLawful 120 = .ok (.aload_n 0, 1) := by decide +kernel
theorem dX10_isLawful_121 : decode cX10_isLawful 121 = .ok (.getfield 89, 3) := by decide +kernel
theorem dX10_isLawful_124 : decode cX10_isLawful 124 = .ok (.ifCond .eq 33, 3) := by decide +kernel
theorem dX10_isLawful_127 : decode cX10_isLawful 127 = .ok (.iload_n 3, 1) := by decide +kernel
theorem dX10_isLawful_128 : decode cX10_isLawful 128 = .ok (.ifCond .eq 29, 3) := by decide +kernel
theorem dX10_isLawful_131 : decode cX10_isLawful 131 = .ok (.aload_n 1, 1) := by decide +kernel
theorem dX10_isLawful_132 : decode cX10_isLawful 132 = .ok (.aload_n 0, 1) := by decide +kernel
theorem dX10_isLawful_133 : decode cX10_isLawful 133 = .ok (.getfield 31, 3) := by decide +kernel
theorem dX10_isLawful_136 : decode cX10_isLawful 136 = .ok (.iload_n 3, 1) := by decide +kernel
theorem dX10_isLawful_137 : decode cX10_isLawful 137 = .ok (.iaload, 1) := by decide +kernel
theorem dX10_isLawful_138 : decode cX10_isLawful 138 = .ok (.iaload, 1) := by decide +kernel
theorem dX10_isLawful_139 : decode cX10_isLawful 139 = .ok (.aload_n 1, 1) := by decide +kernel
theorem dX10_isLawful_140 : decode cX10_isLawful 140 = .ok (.aload_n 0, 1) := by decide +kernel
theorem dX10_isLawful_141 : decode cX10_isLawful 141 = .ok (.getfield 31, 3) := by decide +kernel
theorem dX10_isLawful_144 : decode cX10_isLawful 144 = .ok (.iload_n 3, 1) := by decide +kernel
theorem dX10_isLawful_145 : decode cX10_isLawful 145 = .ok (.iconst 1, 1) := by decide +kernel
theorem dX10_isLawful_146 : decode cX10_isLawful 146 = .ok (.isub, 1) := by decide +kernel
theorem dX10_isLawful_147 : decode cX10_isLawful 147 = .ok (.iaload, 1) := by decide +kernel
theorem dX10_isLawful_148 : decode cX10_isLawful 148 = .ok (.iaload, 1) := by decide +kernel
theorem dX10_isLawful_149 : decode cX10_isLawful 149 = .ok (.isub, 1) := by decide +kernel
theorem dX10_isLawful_150 : decode cX10_isLawful 150 = .ok (.invokestatic 130, 3) := by decide +kernel
theorem dX10_isLawful_153 : decode cX10_isLawful 153 = .ok (.iconst 1, 1) := by decide +kernel
theorem dX10_isLawful_154 : decode cX10_isLawful 154 = .ok (.if_icmp .eq 7, 3) := by decide +kernel
theorem dX10_isLawful_157 : decode cX10_isLawful 157 = .ok (.iconst 1, 1) := by decide +kernel
theorem dX10_isLawful_158 : decode cX10_isLawful 158 = .ok (.goto 4, 3) := by decide +kernel
theorem dX10_isLawful_161 : decode cX10_isLawful 161 = .ok (.iconst 0, 1) := by decide +kernel
theorem dX10_isLawful_162 : decode cX10_isLawful 162 = .ok (.istore_n 2, 1) := by decide +kernel
theorem dX10_isLawful_163 : decode cX10_isLawful 163 = .ok (.iinc 3 1, 3) := by decide +kernel
theorem dX10_isLawful_166 : decode cX10_isLawful 166 = .ok (.goto (-162), 3) := by decide +kernel
theorem dX10_isLawful_169 : decode cX10_isLawful 169 = .ok (.iload_n 2, 1) := by decide +kernel
theorem dX10_isLawful_170 : decode cX10_isLawful 170 = .ok (.ireturn, 1) := by decide +kernel
theorem dX10_worn_0 : decode cX10_worn 0 = .ok (.iload_n 0, 1) := by decide +kernel
theorem dX10_worn_1 : decode cX10_worn 1 = .ok (.iconst 1, 1) := by decide +kernel
theorem dX10_worn_2 : decode cX10_worn 2 = .ok (.if_icmp .eq 8, 3) := by decide +kernel
theorem dX10_worn_5 : decode cX10_worn 5 = .ok (.iload_n 0, 1) := by decide +kernel
theorem dX10_worn_6 : decode cX10_worn 6 = .ok (.iconst 4, 1) := by decide +kernel
theorem dX10_worn_7 : decode cX10_worn 7 = .ok (.if_icmp .ne 11, 3) := by decide +kernel
theorem dX10_worn_10 : decode cX10_worn 10 = .ok (.iload_n 2, 1) := by decide +kernel
theorem dX10_worn_11 : decode cX10_worn 11 = .ok (.iconst 1, 1) := by decide +kernel
theorem dX10_worn_12 : decode cX10_worn 12 = .ok (.iadd, 1) := by decide +kernel
theorem dX10_worn_13 : decode cX10_worn 13 = .ok (.iconst 2, 1) := by decide +kernel
theorem dX10_worn_14 : decode cX10_worn 14 = .ok (.idiv, 1) := by decide +kernel
theorem dX10_worn_15 : decode cX10_worn 15 = .ok (.goto 15, 3) := by decide +kernel
theorem dX10_worn_18 : decode cX10_worn 18 = .ok (.iload_n 0, 1) := by decide +kernel
theorem dX10_worn_19 : decode cX10_worn 19 = .ok (.iconst 2, 1) := by decide +kernel
theorem dX10_worn_20 : decode cX10_worn 20 = .ok (.if_icmp .ne 9, 3) := by decide +kernel
theorem dX10_worn_23 : decode cX10_worn 23 = .ok (.iconst 2, 1) := by decide +kernel
theorem dX10_worn_24 : decode cX10_worn 24 = .ok (.iload_n 2, 1) := by decide +kernel
theorem dX10_worn_25 : decode cX10_worn 25 = .ok (.imul, 1) := by decide +kernel
theorem dX10_worn_26 : decode cX10_worn 26 = .ok (.goto 4, 3) := by decide +kernel
theorem dX10_worn_29 : decode cX10_worn 29 = .ok (.iload_n 2, 1) := by decide +kernel
theorem dX10_worn_30 : decode cX10_worn 30 = .ok (.istore_n 3, 1) := by decide +kernel
theorem dX10_worn_31 : decode cX10_worn 31 = .ok (.iload_n 1, 1) := by decide +kernel
theorem dX10_worn_32 : decode cX10_worn 32 = .ok (.iload_n 3, 1) := by decide +kernel
theorem dX10_worn_33 : decode cX10_worn 33 = .ok (.iadd, 1) := by decide +kernel
theorem dX10_worn_34 : decode cX10_worn 34 = .ok (.sipush 999, 3) := by decide +kernel
theorem dX10_worn_37 : decode cX10_worn 37 = .ok (.if_icmp .le 9, 3) := by decide +kernel
theorem dX10_worn_40 : decode cX10_worn 40 = .ok (.sipush 999, 3) := by decide +kernel
theorem dX10_worn_43 : decode cX10_worn 43 = .ok (.goto 6, 3) := by decide +kernel
theorem dX10_worn_46 : decode cX10_worn 46 = .ok (.iload_n 1, 1) := by decide +kernel
theorem dX10_worn_47 : decode cX10_worn 47 = .ok (.iload_n 3, 1) := by decide +kernel
theorem dX10_worn_48 : decode cX10_worn 48 = .ok (.iadd, 1) := by decide +kernel
theorem dX10_worn_49 : decode cX10_worn 49 = .ok (.ireturn, 1) := by decide +kernel
theorem dX10_worstOf_0 : decode cX10_worstOf 0 = .ok (.iconst 0, 1) := by decide +kernel
theorem dX10_worstOf_1 : decode cX10_worstOf 1 = .ok (.istore_n 2, 1) := by decide +kernel
theorem dX10_worstOf_2 : decode cX10_worstOf 2 = .ok (.iconst 0, 1) := by decide +kernel
theorem dX10_worstOf_3 : decode cX10_worstOf 3 = .ok (.istore_n 3, 1) := by decide +kernel
theorem dX10_worstOf_4 : decode cX10_worstOf 4 = .ok (.iload_n 3, 1) := by decide +kernel
theorem dX10_worstOf_5 : decode cX10_worstOf 5 = .ok (.aload_n 0, 1) := by decide +kernel
theorem dX10_worstOf_6 : decode cX10_worstOf 6 = .ok (.getfield 105, 3) := by decide +kernel
theorem dX10_worstOf_9 : decode cX10_worstOf 9 = .ok (.if_icmp .ge 24, 3) := by decide +kernel
theorem dX10_worstOf_12 : decode cX10_worstOf 12 = .ok (.aload_n 1, 1) := by decide +kernel
theorem dX10_worstOf_13 : decode cX10_worstOf 13 = .ok (.iload_n 3, 1) := by decide +kernel
theorem dX10_worstOf_14 : decode cX10_worstOf 14 = .ok (.iaload, 1) := by decide +kernel
