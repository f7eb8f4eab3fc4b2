theorem dX10_image_38 : decode cX10_image 38 = .ok (.iaload, 1) := by decide +kernel
theorem dX10_image_39 : decode cX10_image 39 = .ok (.iastore, 1) := by decide +kernel
theorem dX10_image_40 : decode cX10_image 40 = .ok (.aload_n 0, 1) := by decide +kernel
theorem dX10_image_41 : decode cX10_image 41 = .ok (.getfield 43, 3) := by decide +kernel
theorem dX10_image_44 : decode cX10_image 44 = .ok (.bipush 6, 2) := by decide +kernel
theorem dX10_image_46 : decode cX10_image 46 = .ok (.iload_n 1, 1) := by decide +kernel
theorem dX10_image_47 : decode cX10_image 47 = .ok (.imul, 1) := by decide +kernel
theorem dX10_image_48 : decode cX10_image 48 = .ok (.iconst 2, 1) := by decide +kernel
theorem dX10_image_49 : decode cX10_image 49 = .ok (.iadd, 1) := by decide +kernel
theorem dX10_image_50 : decode cX10_image 50 = .ok (.aload_n 0, 1) := by decide +kernel
theorem dX10_image_51 : decode cX10_image 51 = .ok (.getfield 19, 3) := by decide +kernel
theorem dX10_image_54 : decode cX10_image 54 = .ok (.iload_n 1, 1) := by decide +kernel
theorem dX10_image_55 : decode cX10_image 55 = .ok (.iaload, 1) := by decide +kernel
theorem dX10_image_56 : decode cX10_image 56 = .ok (.iastore, 1) := by decide +kernel
theorem dX10_image_57 : decode cX10_image 57 = .ok (.aload_n 0, 1) := by decide +kernel
theorem dX10_image_58 : decode cX10_image 58 = .ok (.getfield 43, 3) := by decide +kernel
theorem dX10_image_61 : decode cX10_image 61 = .ok (.bipush 6, 2) := by decide +kernel
theorem dX10_image_63 : decode cX10_image 63 = .ok (.iload_n 1, 1) := by decide +kernel
theorem dX10_image_64 : decode cX10_image 64 = .ok (.imul, 1) := by decide +kernel
theorem dX10_image_65 : decode cX10_image 65 = .ok (.iconst 3, 1) := by decide +kernel
theorem dX10_image_66 : decode cX10_image 66 = .ok (.iadd, 1) := by decide +kernel
theorem dX10_image_67 : decode cX10_image 67 = .ok (.aload_n 0, 1) := by decide +kernel
theorem dX10_image_68 : decode cX10_image 68 = .ok (.getfield 22, 3) := by decide +kernel
theorem dX10_image_71 : decode cX10_image 71 = .ok (.iload_n 1, 1) := by decide +kernel
theorem dX10_image_72 : decode cX10_image 72 = .ok (.iaload, 1) := by decide +kernel
theorem dX10_image_73 : decode cX10_image 73 = .ok (.iastore, 1) := by decide +kernel
theorem dX10_image_74 : decode cX10_image 74 = .ok (.aload_n 0, 1) := by decide +kernel
theorem dX10_image_75 : decode cX10_image 75 = .ok (.getfield 43, 3) := by decide +kernel
theorem dX10_image_78 : decode cX10_image 78 = .ok (.bipush 6, 2) := by decide +kernel
theorem dX10_image_80 : decode cX10_image 80 = .ok (.iload_n 1, 1) := by decide +kernel
theorem dX10_image_81 : decode cX10_image 81 = .ok (.imul, 1) := by decide +kernel
theorem dX10_image_82 : decode cX10_image 82 = .ok (.iconst 4, 1) := by decide +kernel
theorem dX10_image_83 : decode cX10_image 83 = .ok (.iadd, 1) := by decide +kernel
theorem dX10_image_84 : decode cX10_image 84 = .ok (.aload_n 0, 1) := by decide +kernel
theorem dX10_image_85 : decode cX10_image 85 = .ok (.getfield 25, 3) := by decide +kernel
theorem dX10_image_88 : decode cX10_image 88 = .ok (.iload_n 1, 1) := by decide +kernel
theorem dX10_image_89 : decode cX10_image 89 = .ok (.iaload, 1) := by decide +kernel
theorem dX10_image_90 : decode cX10_image 90 = .ok (.iastore, 1) := by decide +kernel
theorem dX10_image_91 : decode cX10_image 91 = .ok (.aload_n 0, 1) := by decide +kernel
theorem dX10_image_92 : decode cX10_image 92 = .ok (.getfield 43, 3) := by decide +kernel
theorem dX10_image_95 : decode cX10_image 95 = .ok (.bipush 6, 2) := by decide +kernel
theorem dX10_image_97 : decode cX10_image 97 = .ok (.iload_n 1, 1) := by decide +kernel
theorem dX10_image_98 : decode cX10_image 98 = .ok (.imul, 1) := by decide +kernel
theorem dX10_image_99 : decode cX10_image 99 = .ok (.iconst 5, 1) := by decide +kernel
theorem dX10_image_100 : decode cX10_image 100 = .ok (.iadd, 1) := by decide +kernel
theorem dX10_image_101 : decode cX10_image 101 = .ok (.aload_n 0, 1) := by decide +kernel
theorem dX10_image_102 : decode cX10_image 102 = .ok (.getfield 28, 3) := by decide +kernel
theorem dX10_image_105 : decode cX10_image 105 = .ok (.iload_n 1, 1) := by decide +kernel
theorem dX10_image_106 : decode cX10_image 106 = .ok (.iaload, 1) := by decide +kernel
theorem dX10_image_107 : decode cX10_image 107 = .ok (.iastore, 1) := by decide +kernel
theorem dX10_image_108 : decode cX10_image 108 = .ok (.iinc 1 1, 3) := by decide +kernel
theorem dX10_image_111 : decode cX10_image 111 = .ok (.goto (-109), 3) := by decide +kernel
theorem dX10_image_114 : decode cX10_image 114 = .ok (.aload_n 0, 1) := by decide +kernel
theorem dX10_image_115 : decode cX10_image 115 = .ok (.aload_n 0, 1) := by decide +kernel
theorem dX10_image_116 : decode cX10_image 116 = .ok (.getfield 105, 3) := by decide +kernel
theorem dX10_image_119 : decode cX10_image 119 = .ok (.putfield 46, 3) := by decide +kernel
theorem dX10_image_122 : decode cX10_image 122 = .ok (.aload_n 0, 1) := by decide +kernel
theorem dX10_image_123 : decode cX10_image 123 = .ok (.getfield 105, 3) := by decide +kernel
theorem dX10_image_126 : decode cX10_image 126 = .ok (.ireturn, 1) := by decide +kernel
theorem dX10_restore_0 : decode cX10_restore 0 = .ok (.aload_n 0, 1) := by decide +kernel
theorem dX10_restore_1 : decode cX10_restore 1 = .ok (.getfield 46, 3) := by decide +kernel
theorem dX10_restore_4 : decode cX10_restore 4 = .ok (.iconst (-1), 1) := by decide +kernel
theorem dX10_restore_5 : decode cX10_restore 5 = .ok (.if_icmp .ne 6, 3) := by decide +kernel
theorem dX10_restore_8 : decode cX10_restore 8 = .ok (.bipush (-103), 2) := by decide +kernel
theorem dX10_restore_10 : decode cX10_restore 10 = .ok (.ireturn, 1) := by decide +kernel
theorem dX10_restore_11 : decode cX10_restore 11 = .ok (.iconst 0, 1) := by decide +kernel
theorem dX10_restore_12 : decode cX10_restore 12 = .ok (.istore_n 1, 1) := by decide +kernel
theorem dX10_restore_13 : decode cX10_restore 13 = .ok (.iload_n 1, 1) := by decide +kernel
theorem dX10_restore_14 : decode cX10_restore 14 = .ok (.bipush 7, 2) := by decide +kernel
theorem dX10_restore_16 : decode cX10_restore 16 = .ok (.if_icmp .ge 109, 3) := by decide +kernel
theorem dX10_restore_19 : decode cX10_restore 19 = .ok (.aload_n 0, 1) := by decide +kernel
theorem dX10_restore_20 : decode cX10_restore 20 = .ok (.getfield 13, 3) := by decide +kernel
theorem dX10_restore_23 : decode cX10_restore 23 = .ok (.iload_n 1, 1) := by decide +kernel
theorem dX10_restore_24 : decode cX10_restore 24 = .ok (.aload_n 0, 1) := by decide +kernel
theorem dX10_restore_25 : decode cX10_restore 25 = .ok (.getfield 43, 3) := by decide +kernel
theorem dX10_restore_28 : decode cX10_restore 28 = .ok (.bipush 6, 2) := by decide +kernel
theorem dX10_restore_30 : decode cX10_restore 30 = .ok (.iload_n 1, 1) := by decide +kernel
theorem dX10_restore_31 : decode cX10_restore 31 = .ok (.imul, 1) := by decide +kernel
theorem dX10_restore_32 : decode cX10_restore 32 = .ok (.iaload, 1) := by decide +kernel
theorem dX10_restore_33 : decode cX10_restore 33 = .ok (.iastore, 1) := by decide +kernel
theorem dX10_restore_34 : decode cX10_restore 34 = .ok (.aload_n 0, 1) := by decide +kernel
theorem dX10_restore_35 : decode cX10_restore 35 = .ok (.getfield 16, 3) := by decide +kernel
theorem dX10_restore_38 : decode cX10_restore 38 = .ok (.iload_n 1, 1) := by decide +kernel
theorem dX10_restore_39 : decode cX10_restore 39 = .ok (.aload_n 0, 1) := by decide +kernel
theorem dX10_restore_40 : decode cX10_restore 40 = .ok (.getfield 43, 3) := by decide +kernel
theorem dX10_restore_43 : decode cX10_restore 43 = .ok (.bipush 6, 2) := by decide +kernel
theorem dX10_restore_45 : decode cX10_restore 45 = .ok (.iload_n 1, 1) := by decide +kernel
theorem dX10_restore_46 : decode cX10_restore 46 = .ok (.imul, 1) := by decide +kernel
theorem dX10_restore_47 : decode cX10_restore 47 = .ok (.iconst 1, 1) := by decide +kernel
theorem dX10_restore_48 : decode cX10_restore 48 = .ok (.iadd, 1) := by decide +kernel
theorem dX10_restore_49 : decode cX10_restore 49 = .ok (.iaload, 1) := by decide +kernel
theorem dX10_restore_50 : decode cX10_restore 50 = .ok (.iastore, 1) := by decide +kernel
theorem dX10_restore_51 : decode cX10_restore 51 = .ok (.aload_n 0, 1) := by decide +kernel
theorem dX10_restore_52 : decode cX10_restore 52 = .ok (.getfield 19, 3) := by decide +kernel
theorem dX10_restore_55 : decode cX10_restore 55 = .ok (.iload_n 1, 1) := by decide +kernel
theorem dX10_restore_56 : decode cX10_restore 56 = .ok (.aload_n 0, 1) := by decide +kernel
theorem dX10_restore_57 : decode cX10_restore 57 = .ok (.getfield 43, 3) := by decide +kernel
theorem dX10_restore_60 : decode cX10_restore 60 = .ok (.bipush 6, 2) := by decide +kernel
theorem dX10_restore_62 : decode cX10_restore 62 = .ok (.iload_n 1, 1) := by decide +kernel
theorem dX10_restore_63 : decode cX10_restore 63 = .ok (.imul, 1) := by decide +kernel
theorem dX10_restore_64 : decode cX10_restore 64 = .ok (.iconst 2, 1) := by decide +kernel
theorem dX10_restore_65 : decode cX10_restore 65 = .ok (.iadd, 1) := by decide +kernel
theorem dX10_restore_66 : decode cX10_restore 66 = .ok (.iaload, 1) := by decide +kernel
theorem dX10_restore_67 : decode cX10_restore 67 = .ok (.iastore, 1) := by decide +kernel
theorem dX10_restore_68 : decode cX10_restore 68 = .ok (.aload_n 0, 1) := by decide +kernel
theorem dX10_restore_69 : decode cX10_restore 69 = .ok (.getfield 22, 3) := by decide +kernel
theorem dX10_restore_72 : decode cX10_restore 72 = .ok (.iload_n 1, 1) := by decide +kernel
theorem dX10_restore_73 : decode cX10_restore 73 = .ok (.aload_n 0, 1) := by decide +kernel
theorem dX10_restore_74 : decode cX10_restore 74 = .ok (.getfield 43, 3) := by decide +kernel
theorem dX10_restore_77 : decode cX10_restore 77 = .ok (.bipush 6, 2) := by decide +kernel
theorem dX10_restore_79 : decode cX10_restore 79 = .ok (.iload_n 1, 1) := by decide +kernel
theorem dX10_restore_80 : decode cX10_restore 80 = .ok (.imul, 1) := by decide +kernel
theorem dX10_restore_81 : decode cX10_restore 81 = .ok (.iconst 3, 1) := by decide +kernel
theorem dX10_restore_82 : decode cX10_restore 82 = .ok (.iadd, 1) := by decide +kernel
theorem dX10_restore_83 : decode cX10_restore 83 = .ok (.iaload, 1) := by decide +kernel
theorem dX10_restore_84 : decode cX10_restore 84 = .ok (.iastore, 1) := by decide +kernel
theorem dX10_restore_85 : decode cX10_restore 85 = .ok (.aload_n 0, 1) := by decide +kernel
theorem dX10_restore_86 : decode cX10_restore 86 = .ok (.getfield 25, 3) := by decide +kernel
theorem dX10_restore_89 : decode cX10_restore 89 = .ok (.iload_n 1, 1) := by decide +kernel
theorem dX10_restore_90 : decode cX10_restore 90 = .ok (.aload_n 0, 1) := by decide +kernel
theorem dX10_restore_91 : decode cX10_restore 91 = .ok (.getfield 43, 3) := by decide +kernel
theorem dX10_restore_94 : decode cX10_restore 94 = .ok (.bipush 6, 2) := by decide +kernel
theorem dX10_restore_96 : decode cX10_restore 96 = .ok (.iload_n 1, 1) := by decide +kernel
theorem dX10_restore_97 : decode cX10_restore 97 = .ok (.imul, 1) := by decide +kernel
theorem dX10_restore_98 : decode cX10_restore 98 = .ok (.iconst 4, 1) := by decide +kernel
theorem dX10_restore_99 : decode cX10_restore 99 = .ok (.iadd, 1) := by decide +kernel
theorem dX10_restore_100 : decode cX10_restore 100 = .ok (.iaload, 1) := by decide +kernel
theorem dX10_restore_101 : decode cX10_restore 101 = .ok (.iastore, 1) := by decide +kernel
theorem dX10_restore_102 : decode cX10_restore 102 = .ok (.aload_n 0, 1) := by decide +kernel
theorem dX10_restore_103 : decode cX10_restore 103 = .ok (.getfield 28, 3) := by decide +kernel
theorem dX10_restore_106 : decode cX10_restore 106 = .ok (.iload_n 1, 1) := by decide +kernel
theorem dX10_restore_107 : decode cX10_restore 107 = .ok (.aload_n 0, 1) := by decide +kernel
theorem dX10_restore_108 : decode cX10_restore 108 = .ok (.getfield 43, 3) := by decide +kernel
theorem dX10_restore_111 : decode cX10_restore 111 = .ok (.bipush 6, 2) := by decide +kernel
theorem dX10_restore_113 : decode cX10_restore 113 = .ok (.iload_n 1, 1) := by decide +kernel
theorem dX10_restore_114 : decode cX10_restore 114 = .ok (.imul, 1) := by decide +kernel
theorem dX10_restore_115 : decode cX10_restore 115 = .ok (.iconst 5, 1) := by decide +kernel
theorem dX10_restore_116 : decode cX10_restore 116 = .ok (.iadd, 1) := by decide +kernel
theorem dX10_restore_117 : decode cX10_restore 117 = .ok (.iaload, 1) := by decide +kernel
theorem dX10_restore_118 : decode cX10_restore 118 = .ok (.iastore, 1) := by decide +kernel
theorem dX10_restore_119 : decode cX10_restore 119 = .ok (.iinc 1 1, 3) := by decide +kernel
theorem dX10_restore_122 : decode cX10_restore 122 = .ok (.goto (-109), 3) := by decide +kernel
theorem dX10_restore_125 : decode cX10_restore 125 = .ok (.aload_n 0, 1) := by decide +kernel
theorem dX10_restore_126 : decode cX10_restore 126 = .ok (.aload_n 0, 1) := by decide +kernel
theorem dX10_restore_127 : decode cX10_restore 127 = .ok (.getfield 46, 3) := by decide +kernel
theorem dX10_restore_130 : decode cX10_restore 130 = .ok (.putfield 105, 3) := by decide +kernel
theorem dX10_restore_133 : decode cX10_restore 133 = .ok (.aload_n 0, 1) := by decide +kernel
theorem dX10_restore_134 : decode cX10_restore 134 = .ok (.getfield 105, 3) := by decide +kernel
theorem dX10_restore_137 : decode cX10_restore 137 = .ok (.ireturn, 1) := by decide +kernel
theorem dX10_wheelsOf_0 : decode cX10_wheelsOf 0 = .ok (.iconst 0, 1) := by decide +kernel
theorem dX10_wheelsOf_1 : decode cX10_wheelsOf 1 = .ok (.istore_n 1, 1) := by decide +kernel
theorem dX10_wheelsOf_2 : decode cX10_wheelsOf 2 = .ok (.iconst 0, 1) := by decide +kernel
theorem dX10_wheelsOf_3 : decode cX10_wheelsOf 3 = .ok (.istore_n 2, 1) := by decide +kernel
theorem dX10_wheelsOf_4 : decode cX10_wheelsOf 4 = .ok (.iload_n 2, 1) := by decide +kernel
theorem dX10_wheelsOf_5 : decode cX10_wheelsOf 5 = .ok (.aload_n 0, 1) := by decide +kernel
theorem dX10_wheelsOf_6 : decode cX10_wheelsOf 6 = .ok (.getfield 105, 3) := by decide +kernel
theorem dX10_wheelsOf_9 : decode cX10_wheelsOf 9 = .ok (.if_icmp .ge 18, 3) := by decide +kernel
theorem dX10_wheelsOf_12 : decode cX10_wheelsOf 12 = .ok (.iload_n 1, 1) := by decide +kernel
theorem dX10_wheelsOf_13 : decode cX10_wheelsOf 13 = .ok (.aload_n 0, 1) := by decide +kernel
theorem dX10_wheelsOf_14 : decode cX10_wheelsOf 14 = .ok (.getfield 28, 3) := by decide +kernel
theorem dX10_wheelsOf_17 : decode cX10_wheelsOf 17 = .ok (.iload_n 2, 1) := by decide +kernel
theorem dX10_wheelsOf_18 : decode cX10_wheelsOf 18 = .ok (.iaload, 1) := by decide +kernel
theorem dX10_wheelsOf_19 : decode cX10_wheelsOf 19 = .ok (.iadd, 1) := by decide +kernel
theorem dX10_wheelsOf_20 : decode cX10_wheelsOf 20 = .ok (.istore_n 1, 1) := by decide +kernel
theorem dX10_wheelsOf_21 : decode cX10_wheelsOf 21 = .ok (.iinc 2 1, 3) := by decide +kernel
theorem dX10_wheelsOf_24 : decode cX10_wheelsOf 24 = .ok (.goto (-20), 3) := by decide +kernel
theorem dX10_wheelsOf_27 : decode cX10_wheelsOf 27 = .ok (.iload_n 1, 1) := by decide +kernel
theorem dX10_wheelsOf_28 : decode cX10_wheelsOf 28 = .ok (.ireturn, 1) := by decide +kernel
theorem dX10_countOf_0 : decode cX10_countOf 0 = .ok (.iload_n 1, 1) := by decide +kernel
theorem dX10_countOf_1 : decode cX10_countOf 1 = .ok (.tableswitch 78 0 6 #[43, 48, 53, 58, 63, 68, 73], 43) := by decide +kernel
theorem dX10_countOf_44 : decode cX10_countOf 44 = .ok (.aload_n 0, 1) := by decide +kernel
theorem dX10_countOf_45 : decode cX10_countOf 45 = .ok (.getfield 105, 3) := by decide +kernel
theorem dX10_countOf_48 : decode cX10_countOf 48 = .ok (.ireturn, 1) := by decide +kernel
theorem dX10_countOf_49 : decode cX10_countOf 49 = .ok (.aload_n 0, 1) := by decide +kernel
theorem dX10_countOf_50 : decode cX10_countOf 50 = .ok (.getfield 55, 3) := by decide +kernel
theorem dX10_countOf_53 : decode cX10_countOf 53 = .ok (.ireturn, 1) := by decide +kernel
theorem dX10_countOf_54 : decode cX10_countOf 54 = .ok (.aload_n 0, 1) := by decide +kernel
theorem dX10_countOf_55 : decode cX10_countOf 55 = .ok (.getfield 98, 3) := by decide +kernel
theorem dX10_countOf_58 : decode cX10_countOf 58 = .ok (.ireturn, 1) := by decide +kernel
theorem dX10_countOf_59 : decode cX10_countOf 59 = .ok (.aload_n 0, 1) := by decide +kernel
theorem dX10_countOf_60 : decode cX10_countOf 60 = .ok (.getfield 182, 3) := by decide +kernel
theorem dX10_countOf_63 : decode cX10_countOf 63 = .ok (.ireturn, 1) := by decide +kernel
theorem dX10_countOf_64 : decode cX10_countOf 64 = .ok (.aload_n 0, 1) := by decide +kernel
theorem dX10_countOf_65 : decode cX10_countOf 65 = .ok (.getfield 212, 3) := by decide +kernel
theorem dX10_countOf_68 : decode cX10_countOf 68 = .ok (.ireturn, 1) := by decide +kernel
theorem dX10_countOf_69 : decode cX10_countOf 69 = .ok (.aload_n 0, 1) := by decide +kernel
theorem dX10_countOf_70 : decode cX10_countOf 70 = .ok (.getfield 220, 3) := by decide +kernel
theorem dX10_countOf_73 : decode cX10_countOf 73 = .ok (.ireturn, 1) := by decide +kernel
theorem dX10_countOf_74 : decode cX10_countOf 74 = .ok (.aload_n 0, 1) := by decide +kernel
theorem dX10_countOf_75 : decode cX10_countOf 75 = .ok (.invokevirtual 229, 3) := by decide +kernel
theorem dX10_countOf_78 : decode cX10_countOf 78 = .ok (.ireturn, 1) := by decide +kernel
theorem dX10_countOf_79 : decode cX10_countOf 79 = .ok (.bipush (-102), 2) := by decide +kernel
theorem dX10_countOf_81 : decode cX10_countOf 81 = .ok (.ireturn, 1) := by decide +kernel
theorem dX10_count_0 : decode cX10_count 0 = .ok (.aload_n 0, 1) := by decide +kernel
theorem dX10_count_1 : decode cX10_count 1 = .ok (.iload_n 1, 1) := by decide +kernel
theorem dX10_count_2 : decode cX10_count 2 = .ok (.invokevirtual 232, 3) := by decide +kernel
theorem dX10_count_5 : decode cX10_count 5 = .ok (.ireturn, 1) := by decide +kernel
theorem dX10_say_0 : decode cX10_say 0 = .ok (.aload_n 0, 1) := by decide +kernel
theorem dX10_say_1 : decode cX10_say 1 = .ok (.ldc2_w 235, 3) := by decide +kernel
theorem dX10_say_4 : decode cX10_say 4 = .ok (.aload_n 0, 1) := by decide +kernel
theorem dX10_say_5 : decode cX10_say 5 = .ok (.getfield 237, 3) := by decide +kernel
theorem dX10_say_8 : decode cX10_say 8 = .ok (.lmul, 1) := by decide +kernel
theorem dX10_say_9 : decode cX10_say 9 = .ok (.lload_n 1, 1) := by decide +kernel
theorem dX10_say_10 : decode cX10_say 10 = .ok (.ladd, 1) := by decide +kernel
theorem dX10_say_11 : decode cX10_say 11 = .ok (.putfield 237, 3) := by decide +kernel
theorem dX10_say_14 : decode cX10_say 14 = .ok (.return_, 1) := by decide +kernel
theorem dX10_sayStreet_0 : decode cX10_sayStreet 0 = .ok (.aload_n 0, 1) := by decide +kernel
theorem dX10_sayStreet_1 : decode cX10_sayStreet 1 = .ok (.aload_n 0, 1) := by decide +kernel
theorem dX10_sayStreet_2 : decode cX10_sayStreet 2 = .ok (.aload_n 0, 1) := by decide +kernel
theorem dX10_sayStreet_3 : decode cX10_sayStreet 3 = .ok (.getfield 16, 3) := by decide +kernel
theorem dX10_sayStreet_6 : decode cX10_sayStreet 6 = .ok (.invokevirtual 152, 3) := by decide +kernel
theorem dX10_sayStreet_9 : decode cX10_sayStreet 9 = .ok (.i2l, 1) := by decide +kernel
theorem dX10_sayStreet_10 : decode cX10_sayStreet 10 = .ok (.invokevirtual 241, 3) := by decide +kernel
theorem dX10_sayStreet_13 : decode cX10_sayStreet 13 = .ok (.aload_n 0, 1) := by decide +kernel
theorem dX10_sayStreet_14 : decode cX10_sayStreet 14 = .ok (.aload_n 0, 1) := by decide +kernel
theorem dX10_sayStreet_15 : decode cX10_sayStreet 15 = .ok (.invokevirtual 207, 3) := by decide +kernel
theorem dX10_sayStreet_18 : decode cX10_sayStreet 18 = .ok (.i2l, 1) := by decide +kernel
theorem dX10_sayStreet_19 : decode cX10_sayStreet 19 = .ok (.invokevirtual 241, 3) := by decide +kernel
theorem dX10_sayStreet_22 : decode cX10_sayStreet 22 = .ok (.iconst 0, 1) := by decide +kernel
theorem dX10_sayStreet_23 : decode cX10_sayStreet 23 = .ok (.istore_n 1, 1) := by decide +kernel
theorem dX10_sayStreet_24 : decode cX10_sayStreet 24 = .ok (.iload_n 1, 1) := by decide +kernel
theorem dX10_sayStreet_25 : decode cX10_sayStreet 25 = .ok (.aload_n 0, 1) := by decide +kernel
theorem dX10_sayStreet_26 : decode cX10_sayStreet 26 = .ok (.getfield 105, 3) := by decide +kernel
theorem dX10_sayStreet_29 : decode cX10_sayStreet 29 = .ok (.if_icmp .ge 27, 3) := by decide +kernel
theorem dX10_sayStreet_32 : decode cX10_sayStreet 32 = .ok (.aload_n 0, 1) := by decide +kernel
theorem dX10_sayStreet_33 : decode cX10_sayStreet 33 = .ok (.getfield 31, 3) := by decide +kernel
theorem dX10_sayStreet_36 : decode cX10_sayStreet 36 = .ok (.iload_n 1, 1) := by decide +kernel
theorem dX10_sayStreet_37 : decode cX10_sayStreet 37 = .ok (.aload_n 0, 1) := by decide +kernel
theorem dX10_sayStreet_38 : decode cX10_sayStreet 38 = .ok (.aload_n 0, 1) := by decide +kernel
theorem dX10_sayStreet_39 : decode cX10_sayStreet 39 = .ok (.getfield 105, 3) := by decide +kernel
theorem dX10_sayStreet_42 : decode cX10_sayStreet 42 = .ok (.iconst 1, 1) := by decide +kernel
theorem dX10_sayStreet_43 : decode cX10_sayStreet 43 = .ok (.isub, 1) := by decide +kernel
theorem dX10_sayStreet_44 : decode cX10_sayStreet 44 = .ok (.iload_n 1, 1) := by decide +kernel
theorem dX10_sayStreet_45 : decode cX10_sayStreet 45 = .ok (.isub, 1) := by decide +kernel
theorem dX10_sayStreet_46 : decode cX10_sayStreet 46 = .ok (.invokevirtual 123, 3) := by decide +kernel
theorem dX10_sayStreet_49 : decode cX10_sayStreet 49 = .ok (.iastore, 1) := by decide +kernel
theorem dX10_sayStreet_50 : decode cX10_sayStreet 50 = .ok (.iinc 1 1, 3) := by decide +kernel
theorem dX10_sayStreet_53 : decode cX10_sayStreet 53 = .ok (.goto (-29), 3) := by decide +kernel
theorem dX10_sayStreet_56 : decode cX10_sayStreet 56 = .ok (.aload_n 0, 1) := by decide +kernel
theorem dX10_sayStreet_57 : decode cX10_sayStreet 57 = .ok (.aload_n 0, 1) := by decide +kernel
theorem dX10_sayStreet_58 : decode cX10_sayStreet 58 = .ok (.aload_n 0, 1) := by decide +kernel
theorem dX10_sayStreet_59 : decode cX10_sayStreet 59 = .ok (.getfield 22, 3) := by decide +kernel
theorem dX10_sayStreet_62 : decode cX10_sayStreet 62 = .ok (.invokevirtual 144, 3) := by decide +kernel
theorem dX10_sayStreet_65 : decode cX10_sayStreet 65 = .ok (.ifCond .eq 7, 3) := by decide +kernel
theorem dX10_sayStreet_68 : decode cX10_sayStreet 68 = .ok (.lconst 1, 1) := by decide +kernel
theorem dX10_sayStreet_69 : decode cX10_sayStreet 69 = .ok (.goto 4, 3) := by decide +kernel
theorem dX10_sayStreet_72 : decode cX10_sayStreet 72 = .ok (.lconst 0, 1) := by decide +kernel
theorem dX10_sayStreet_73 : decode cX10_sayStreet 73 = .ok (.invokevirtual 241, 3) := by decide +kernel
theorem dX10_sayStreet_76 : decode cX10_sayStreet 76 = .ok (.iconst 0, 1) := by decide +kernel
theorem dX10_sayStreet_77 : decode cX10_sayStreet 77 = .ok (.istore_n 1, 1) := by decide +kernel
theorem dX10_sayStreet_78 : decode cX10_sayStreet 78 = .ok (.iload_n 1, 1) := by decide +kernel
theorem dX10_sayStreet_79 : decode cX10_sayStreet 79 = .ok (.iconst 3, 1) := by decide +kernel
theorem dX10_sayStreet_80 : decode cX10_sayStreet 80 = .ok (.if_icmp .ge 19, 3) := by decide +kernel
theorem dX10_sayStreet_83 : decode cX10_sayStreet 83 = .ok (.aload_n 0, 1) := by decide +kernel
theorem dX10_sayStreet_84 : decode cX10_sayStreet 84 = .ok (.aload_n 0, 1) := by decide +kernel
theorem dX10_sayStreet_85 : decode cX10_sayStreet 85 = .ok (.iload_n 1, 1) := by decide +kernel
theorem dX10_sayStreet_86 : decode cX10_sayStreet 86 = .ok (.invokevirtual 191, 3) := by decide +kernel
theorem dX10_sayStreet_89 : decode cX10_sayStreet 89 = .ok (.i2l, 1) := by decide +kernel
theorem dX10_sayStreet_90 : decode cX10_sayStreet 90 = .ok (.invokevirtual 241, 3) := by decide +kernel
theorem dX10_sayStreet_93 : decode cX10_sayStreet 93 = .ok (.iinc 1 1, 3) := by decide +kernel
theorem dX10_sayStreet_96 : decode cX10_sayStreet 96 = .ok (.goto (-18), 3) := by decide +kernel
theorem dX10_sayStreet_99 : decode cX10_sayStreet 99 = .ok (.return_, 1) := by decide +kernel
theorem dX10_digest_0 : decode cX10_digest 0 = .ok (.aload_n 0, 1) := by decide +kernel
theorem dX10_digest_1 : decode cX10_digest 1 = .ok (.ldc2_w 245, 3) := by decide +kernel
theorem dX10_digest_4 : decode cX10_digest 4 = .ok (.putfield 237, 3) := by decide +kernel
theorem dX10_digest_7 : decode cX10_digest 7 = .ok (.iconst 0, 1) := by decide +kernel
theorem dX10_digest_8 : decode cX10_digest 8 = .ok (.istore_n 1, 1) := by decide +kernel
theorem dX10_digest_9 : decode cX10_digest 9 = .ok (.iload_n 1, 1) := by decide +kernel
theorem dX10_digest_10 : decode cX10_digest 10 = .ok (.iconst 4, 1) := by decide +kernel
theorem dX10_digest_11 : decode cX10_digest 11 = .ok (.if_icmp .ge 19, 3) := by decide +kernel
theorem dX10_digest_14 : decode cX10_digest 14 = .ok (.aload_n 0, 1) := by decide +kernel
theorem dX10_digest_15 : decode cX10_digest 15 = .ok (.aload_n 0, 1) := by decide +kernel
theorem dX10_digest_16 : decode cX10_digest 16 = .ok (.iload_n 1, 1) := by decide +kernel
theorem dX10_digest_17 : decode cX10_digest 17 = .ok (.invokevirtual 101, 3) := by decide +kernel
theorem dX10_digest_20 : decode cX10_digest 20 = .ok (.i2l, 1) := by decide +kernel
theorem dX10_digest_21 : decode cX10_digest 21 = .ok (.invokevirtual 241, 3) := by decide +kernel
theorem dX10_digest_24 : decode cX10_digest 24 = .ok (.iinc 1 1, 3) := by decide +kernel
theorem dX10_digest_27 : decode cX10_digest 27 = .ok (.goto (-18), 3) := by decide +kernel
theorem dX10_digest_30 : decode cX10_digest 30 = .ok (.iconst 0, 1) := by decide +kernel
theorem dX10_digest_31 : decode cX10_digest 31 = .ok (.istore_n 1, 1) := by decide +kernel
theorem dX10_digest_32 : decode cX10_digest 32 = .ok (.iload_n 1, 1) := by decide +kernel
theorem dX10_digest_33 : decode cX10_digest 33 = .ok (.aload_n 0, 1) := by decide +kernel
theorem dX10_digest_34 : decode cX10_digest 34 = .ok (.getfield 105, 3) := by decide +kernel
theorem dX10_digest_37 : decode cX10_digest 37 = .ok (.if_icmp .ge 33, 3) := by decide +kernel
theorem dX10_digest_40 : decode cX10_digest 40 = .ok (.iconst 0, 1) := by decide +kernel
theorem dX10_digest_41 : decode cX10_digest 41 = .ok (.istore_n 2, 1) := by decide +kernel
theorem dX10_digest_42 : decode cX10_digest 42 = .ok (.iload_n 2, 1) := by decide +kernel
theorem dX10_digest_43 : decode cX10_digest 43 = .ok (.iconst 5, 1) := by decide +kernel
theorem dX10_digest_44 : decode cX10_digest 44 = .ok (.if_icmp .ge 20, 3) := by decide +kernel
theorem dX10_digest_47 : decode cX10_digest 47 = .ok (.aload_n 0, 1) := by decide +kernel
theorem dX10_digest_48 : decode cX10_digest 48 = .ok (.aload_n 0, 1) := by decide +kernel
theorem dX10_digest_49 : decode cX10_digest 49 = .ok (.iload_n 1, 1) := by decide +kernel
theorem dX10_digest_50 : decode cX10_digest 50 = .ok (.iload_n 2, 1) := by decide +kernel
theorem dX10_digest_51 : decode cX10_digest 51 = .ok (.invokevirtual 115, 3) := by decide +kernel
theorem dX10_digest_54 : decode cX10_digest 54 = .ok (.i2l, 1) := by decide +kernel
theorem dX10_digest_55 : decode cX10_digest 55 = .ok (.invokevirtual 241, 3) := by decide +kernel
theorem dX10_digest_58 : decode cX10_digest 58 = .ok (.iinc 2 1, 3) := by decide +kernel
theorem dX10_digest_61 : decode cX10_digest 61 = .ok (.goto (-19), 3) := by decide +kernel
theorem dX10_digest_64 : decode cX10_digest 64 = .ok (.iinc 1 1, 3) := by decide +kernel
theorem dX10_digest_67 : decode cX10_digest 67 = .ok (.goto (-35), 3) := by decide +kernel
theorem dX10_digest_70 : decode cX10_digest 70 = .ok (.iconst 0, 1) := by decide +kernel
theorem dX10_digest_71 : decode cX10_digest 71 = .ok (.istore_n 1, 1) := by decide +kernel
theorem dX10_digest_72 : decode cX10_digest 72 = .ok (.iload_n 1, 1) := by decide +kernel
theorem dX10_digest_73 : decode cX10_digest 73 = .ok (.bipush 7, 2) := by decide +kernel
theorem dX10_digest_75 : decode cX10_digest 75 = .ok (.if_icmp .ge 20, 3) := by decide +kernel
theorem dX10_digest_78 : decode cX10_digest 78 = .ok (.aload_n 0, 1) := by decide +kernel
theorem dX10_digest_79 : decode cX10_digest 79 = .ok (.aload_n 0, 1) := by decide +kernel
theorem dX10_digest_80 : decode cX10_digest 80 = .ok (.getfield 28, 3) := by decide +kernel
theorem dX10_digest_83 : decode cX10_digest 83 = .ok (.iload_n 1, 1) := by decide +kernel
theorem dX10_digest_84 : decode cX10_digest 84 = .ok (.iaload, 1) := by decide +kernel
theorem dX10_digest_85 : decode cX10_digest 85 = .ok (.i2l, 1) := by decide +kernel
theorem dX10_digest_86 : decode cX10_digest 86 = .ok (.invokevirtual 241, 3) := by decide +kernel
theorem dX10_digest_89 : decode cX10_digest 89 = .ok (.iinc 1 1, 3) := by decide +kernel
theorem dX10_digest_92 : decode cX10_digest 92 = .ok (.goto (-20), 3) := by decide +kernel
theorem dX10_digest_95 : decode cX10_digest 95 = .ok (.aload_n 0, 1) := by decide +kernel
theorem dX10_digest_96 : decode cX10_digest 96 = .ok (.invokevirtual 137, 3) := by decide +kernel
theorem dX10_digest_99 : decode cX10_digest 99 = .ok (.ifCond .ne 7, 3) := by decide +kernel
theorem dX10_digest_102 : decode cX10_digest 102 = .ok (.aload_n 0, 1) := by decide +kernel
theorem dX10_digest_103 : decode cX10_digest 103 = .ok (.invokevirtual 247, 3) := by decide +kernel
theorem dX10_digest_106 : decode cX10_digest 106 = .ok (.iconst 0, 1) := by decide +kernel
theorem dX10_digest_107 : decode cX10_digest 107 = .ok (.istore_n 1, 1) := by decide +kernel
theorem dX10_digest_108 : decode cX10_digest 108 = .ok (.iload_n 1, 1) := by decide +kernel
theorem dX10_digest_109 : decode cX10_digest 109 = .ok (.aload_n 0, 1) := by decide +kernel
theorem dX10_digest_110 : decode cX10_digest 110 = .ok (.getfield 55, 3) := by decide +kernel
theorem dX10_digest_113 : decode cX10_digest 113 = .ok (.if_icmp .ge 20, 3) := by decide +kernel
theorem dX10_digest_116 : decode cX10_digest 116 = .ok (.aload_n 0, 1) := by decide +kernel
theorem dX10_digest_117 : decode cX10_digest 117 = .ok (.aload_n 0, 1) := by decide +kernel
theorem dX10_digest_118 : decode cX10_digest 118 = .ok (.getfield 7, 3) := by decide +kernel
theorem dX10_digest_121 : decode cX10_digest 121 = .ok (.iload_n 1, 1) := by decide +kernel
theorem dX10_digest_122 : decode cX10_digest 122 = .ok (.iaload, 1) := by decide +kernel
theorem dX10_digest_123 : decode cX10_digest 123 = .ok (.i2l, 1) := by decide +kernel
theorem dX10_digest_124 : decode cX10_digest 124 = .ok (.invokevirtual 241, 3) := by decide +kernel
theorem dX10_digest_127 : decode cX10_digest 127 = .ok (.iinc 1 1, 3) := by decide +kernel
theorem dX10_digest_130 : decode cX10_digest 130 = .ok (.goto (-22), 3) := by decide +kernel
theorem dX10_digest_133 : decode cX10_digest 133 = .ok (.iconst 0, 1) := by decide +kernel
theorem dX10_digest_134 : decode cX10_digest 134 = .ok (.istore_n 1, 1) := by decide +kernel
theorem dX10_digest_135 : decode cX10_digest 135 = .ok (.iload_n 1, 1) := by decide +kernel
theorem dX10_digest_136 : decode cX10_digest 136 = .ok (.bipush 7, 2) := by decide +kernel
theorem dX10_digest_138 : decode cX10_digest 138 = .ok (.if_icmp .ge 19, 3) := by decide +kernel
theorem dX10_digest_141 : decode cX10_digest 141 = .ok (.aload_n 0, 1) := by decide +kernel
theorem dX10_digest_142 : decode cX10_digest 142 = .ok (.aload_n 0, 1) := by decide +kernel
theorem dX10_digest_143 : decode cX10_digest 143 = .ok (.iload_n 1, 1) := by decide +kernel
theorem dX10_digest_144 : decode cX10_digest 144 = .ok (.invokevirtual 232, 3) := by decide +kernel
theorem dX10_digest_147 : decode cX10_digest 147 = .ok (.i2l, 1) := by decide +kernel
theorem dX10_digest_148 : decode cX10_digest 148 = .ok (.invokevirtual 241, 3) := by decide +kernel
theorem dX10_digest_151 : decode cX10_digest 151 = .ok (.iinc 1 1, 3) := by decide +kernel
theorem dX10_digest_154 : decode cX10_digest 154 = .ok (.goto (-19), 3) := by decide +kernel
theorem dX10_digest_157 : decode cX10_digest 157 = .ok (.aload_n 0, 1) := by decide +kernel
theorem dX10_digest_158 : decode cX10_digest 158 = .ok (.getfield 237, 3) := by decide +kernel
theorem dX10_digest_161 : decode cX10_digest 161 = .ok (.lreturn, 1) := by decide +kernel
theorem dJ6_bitCount_0f7a4_0 : decode cJ6_bitCount_0f7a4 0 = .ok (.iload_n 0, 1) := by decide +kernel
theorem dJ6_bitCount_0f7a4_1 : decode cJ6_bitCount_0f7a4 1 = .ok (.iload_n 0, 1) := by decide +kernel
theorem dJ6_bitCount_0f7a4_2 : decode cJ6_bitCount_0f7a4 2 = .ok (.iconst 1, 1) := by decide +kernel
theorem dJ6_bitCount_0f7a4_3 : decode cJ6_bitCount_0f7a4 3 = .ok (.iushr, 1) := by decide +kernel
theorem dJ6_bitCount_0f7a4_4 : decode cJ6_bitCount_0f7a4 4 = .ok (.ldc_w 265, 3) := by decide +kernel
theorem dJ6_bitCount_0f7a4_7 : decode cJ6_bitCount_0f7a4 7 = .ok (.iand, 1) := by decide +kernel
theorem dJ6_bitCount_0f7a4_8 : decode cJ6_bitCount_0f7a4 8 = .ok (.isub, 1) := by decide +kernel
theorem dJ6_bitCount_0f7a4_9 : decode cJ6_bitCount_0f7a4 9 = .ok (.istore_n 0, 1) := by decide +kernel
theorem dJ6_bitCount_0f7a4_10 : decode cJ6_bitCount_0f7a4 10 = .ok (.iload_n 0, 1) := by decide +kernel
theorem dJ6_bitCount_0f7a4_11 : decode cJ6_bitCount_0f7a4 11 = .ok (.ldc_w 266, 3) := by decide +kernel
theorem dJ6_bitCount_0f7a4_14 : decode cJ6_bitCount_0f7a4 14 = .ok (.iand, 1) := by decide +kernel
theorem dJ6_bitCount_0f7a4_15 : decode cJ6_bitCount_0f7a4 15 = .ok (.iload_n 0, 1) := by decide +kernel
theorem dJ6_bitCount_0f7a4_16 : decode cJ6_bitCount_0f7a4 16 = .ok (.iconst 2, 1) := by decide +kernel
theorem dJ6_bitCount_0f7a4_17 : decode cJ6_bitCount_0f7a4 17 = .ok (.iushr, 1) := by decide +kernel
theorem dJ6_bitCount_0f7a4_18 : decode cJ6_bitCount_0f7a4 18 = .ok (.ldc_w 266, 3) := by decide +kernel
theorem dJ6_bitCount_0f7a4_21 : decode cJ6_bitCount_0f7a4 21 = .ok (.iand, 1) := by decide +kernel
theorem dJ6_bitCount_0f7a4_22 : decode cJ6_bitCount_0f7a4 22 = .ok (.iadd, 1) := by decide +kernel
theorem dJ6_bitCount_0f7a4_23 : decode cJ6_bitCount_0f7a4 23 = .ok (.istore_n 0, 1) := by decide +kernel
theorem dJ6_bitCount_0f7a4_24 : decode cJ6_bitCount_0f7a4 24 = .ok (.iload_n 0, 1) := by decide +kernel
theorem dJ6_bitCount_0f7a4_25 : decode cJ6_bitCount_0f7a4 25 = .ok (.iload_n 0, 1) := by decide +kernel
theorem dJ6_bitCount_0f7a4_26 : decode cJ6_bitCount_0f7a4 26 = .ok (.iconst 4, 1) := by decide +kernel
theorem dJ6_bitCount_0f7a4_27 : decode cJ6_bitCount_0f7a4 27 = .ok (.iushr, 1) := by decide +kernel
theorem dJ6_bitCount_0f7a4_28 : decode cJ6_bitCount_0f7a4 28 = .ok (.iadd, 1) := by decide +kernel
theorem dJ6_bitCount_0f7a4_29 : decode cJ6_bitCount_0f7a4 29 = .ok (.ldc_w 267, 3) := by decide +kernel
theorem dJ6_bitCount_0f7a4_32 : decode cJ6_bitCount_0f7a4 32 = .ok (.iand, 1) := by decide +kernel
theorem dJ6_bitCount_0f7a4_33 : decode cJ6_bitCount_0f7a4 33 = .ok (.istore_n 0, 1) := by decide +kernel
theorem dJ6_bitCount_0f7a4_34 : decode cJ6_bitCount_0f7a4 34 = .ok (.iload_n 0, 1) := by decide +kernel
theorem dJ6_bitCount_0f7a4_35 : decode cJ6_bitCount_0f7a4 35 = .ok (.iload_n 0, 1) := by decide +kernel
theorem dJ6_bitCount_0f7a4_36 : decode cJ6_bitCount_0f7a4 36 = .ok (.bipush 8, 2) := by decide +kernel
theorem dJ6_bitCount_0f7a4_38 : decode cJ6_bitCount_0f7a4 38 = .ok (.iushr, 1) := by decide +kernel
theorem dJ6_bitCount_0f7a4_39 : decode cJ6_bitCount_0f7a4 39 = .ok (.iadd, 1) := by decide +kernel
theorem dJ6_bitCount_0f7a4_40 : decode cJ6_bitCount_0f7a4 40 = .ok (.istore_n 0, 1) := by decide +kernel
theorem dJ6_bitCount_0f7a4_41 : decode cJ6_bitCount_0f7a4 41 = .ok (.iload_n 0, 1) := by decide +kernel
theorem dJ6_bitCount_0f7a4_42 : decode cJ6_bitCount_0f7a4 42 = .ok (.iload_n 0, 1) := by decide +kernel
theorem dJ6_bitCount_0f7a4_43 : decode cJ6_bitCount_0f7a4 43 = .ok (.bipush 16, 2) := by decide +kernel
theorem dJ6_bitCount_0f7a4_45 : decode cJ6_bitCount_0f7a4 45 = .ok (.iushr, 1) := by decide +kernel
theorem dJ6_bitCount_0f7a4_46 : decode cJ6_bitCount_0f7a4 46 = .ok (.iadd, 1) := by decide +kernel
theorem dJ6_bitCount_0f7a4_47 : decode cJ6_bitCount_0f7a4 47 = .ok (.istore_n 0, 1) := by decide +kernel
theorem dJ6_bitCount_0f7a4_48 : decode cJ6_bitCount_0f7a4 48 = .ok (.iload_n 0, 1) := by decide +kernel
theorem dJ6_bitCount_0f7a4_49 : decode cJ6_bitCount_0f7a4 49 = .ok (.bipush 63, 2) := by decide +kernel
theorem dJ6_bitCount_0f7a4_51 : decode cJ6_bitCount_0f7a4 51 = .ok (.iand, 1) := by decide +kernel
theorem dJ6_bitCount_0f7a4_52 : decode cJ6_bitCount_0f7a4 52 = .ok (.ireturn, 1) := by decide +kernel
theorem dJ9_abs_0f7a4_0 : decode cJ9_abs_0f7a4 0 = .ok (.iload_n 0, 1) := by decide +kernel
theorem dJ9_abs_0f7a4_1 : decode cJ9_abs_0f7a4 1 = .ok (.ifCond .ge 8, 3) := by decide +kernel
theorem dJ9_abs_0f7a4_4 : decode cJ9_abs_0f7a4 4 = .ok (.iload_n 0, 1) := by decide +kernel
theorem dJ9_abs_0f7a4_5 : decode cJ9_abs_0f7a4 5 = .ok (.ineg, 1) := by decide +kernel
theorem dJ9_abs_0f7a4_6 : decode cJ9_abs_0f7a4 6 = .ok (.goto 4, 3) := by decide +kernel
theorem dJ9_abs_0f7a4_9 : decode cJ9_abs_0f7a4 9 = .ok (.iload_n 0, 1) := by decide +kernel
theorem dJ9_abs_0f7a4_10 : decode cJ9_abs_0f7a4 10 = .ok (.ireturn, 1) := by decide +kernel
theorem dJ9_max_7cf53_0 : decode cJ9_max_7cf53 0 = .ok (.iload_n 0, 1) := by decide +kernel
theorem dJ9_max_7cf53_1 : decode cJ9_max_7cf53 1 = .ok (.iload_n 1, 1) := by decide +kernel
theorem dJ9_max_7cf53_2 : decode cJ9_max_7cf53 2 = .ok (.if_icmp .lt 7, 3) := by decide +kernel
theorem dJ9_max_7cf53_5 : decode cJ9_max_7cf53 5 = .ok (.iload_n 0, 1) := by decide +kernel
theorem dJ9_max_7cf53_6 : decode cJ9_max_7cf53 6 = .ok (.goto 4, 3) := by decide +kernel
theorem dJ9_max_7cf53_9 : decode cJ9_max_7cf53 9 = .ok (.iload_n 1, 1) := by decide +kernel
theorem dJ9_max_7cf53_10 : decode cJ9_max_7cf53 10 = .ok (.ireturn, 1) := by decide +kernel
theorem dJ9_min_7cf53_0 : decode cJ9_min_7cf53 0 = .ok (.iload_n 0, 1) := by decide +kernel
theorem dJ9_min_7cf53_1 : decode cJ9_min_7cf53 1 = .ok (.iload_n 1, 1) := by decide +kernel
theorem dJ9_min_7cf53_2 : decode cJ9_min_7cf53 2 = .ok (.if_icmp .gt 7, 3) := by decide +kernel
theorem dJ9_min_7cf53_5 : decode cJ9_min_7cf53 5 = .ok (.iload_n 0, 1) := by decide +kernel
theorem dJ9_min_7cf53_6 : decode cJ9_min_7cf53 6 = .ok (.goto 4, 3) := by decide +kernel
theorem dJ9_min_7cf53_9 : decode cJ9_min_7cf53 9 = .ok (.iload_n 1, 1) := by decide +kernel
theorem dJ9_min_7cf53_10 : decode cJ9_min_7cf53 10 = .ok (.ireturn, 1) := by decide +kernel
theorem dL_law_0 : decode cL_law 0 = .ok (.new 7, 3) := by decide +kernel
theorem dL_law_3 : decode cL_law 3 = .ok (.dup, 1) := by decide +kernel
theorem dL_law_4 : decode cL_law 4 = .ok (.invokespecial 9, 3) := by decide +kernel
theorem dL_law_7 : decode cL_law 7 = .ok (.astore_n 1, 1) := by decide +kernel
theorem dL_law_8 : decode cL_law 8 = .ok (.new 10, 3) := by decide +kernel
theorem dL_law_11 : decode cL_law 11 = .ok (.dup, 1) := by decide +kernel
theorem dL_law_12 : decode cL_law 12 = .ok (.invokespecial 12, 3) := by decide +kernel
theorem dL_law_15 : decode cL_law 15 = .ok (.astore_n 2, 1) := by decide +kernel
theorem dL_law_16 : decode cL_law 16 = .ok (.iconst 0, 1) := by decide +kernel
theorem dL_law_17 : decode cL_law 17 = .ok (.istore_n 3, 1) := by decide +kernel
theorem dL_law_18 : decode cL_law 18 = .ok (.iload_n 3, 1) := by decide +kernel
theorem dL_law_19 : decode cL_law 19 = .ok (.aload_n 0, 1) := by decide +kernel
theorem dL_law_20 : decode cL_law 20 = .ok (.arraylength, 1) := by decide +kernel
theorem dL_law_21 : decode cL_law 21 = .ok (.iconst 4, 1) := by decide +kernel
theorem dL_law_22 : decode cL_law 22 = .ok (.isub, 1) := by decide +kernel
theorem dL_law_23 : decode cL_law 23 = .ok (.if_icmp .gt 835, 3) := by decide +kernel
theorem dL_law_26 : decode cL_law 26 = .ok (.aload_n 0, 1) := by decide +kernel
theorem dL_law_27 : decode cL_law 27 = .ok (.iload_n 3, 1) := by decide +kernel
theorem dL_law_28 : decode cL_law 28 = .ok (.iaload, 1) := by decide +kernel
theorem dL_law_29 : decode cL_law 29 = .ok (.bipush 31, 2) := by decide +kernel
theorem dL_law_31 : decode cL_law 31 = .ok (.iand, 1) := by decide +kernel
theorem dL_law_32 : decode cL_law 32 = .ok (.tableswitch 820 0 28 #[132, 185, 198, 211, 224, 247, 290, 323, 356, 389, 412, 435, 458, 481, 504, 527, 540, 563, 576, 609, 632, 645, 678, 701, 724, 757, 770, 783, 806], 132) := by decide +kernel
theorem dL_law_164 : decode cL_law 164 = .ok (.aload_n 1, 1) := by decide +kernel
theorem dL_law_165 : decode cL_law 165 = .ok (.aload_n 0, 1) := by decide +kernel
theorem dL_law_166 : decode cL_law 166 = .ok (.iload_n 3, 1) := by decide +kernel
theorem dL_law_167 : decode cL_law 167 = .ok (.iconst 1, 1) := by decide +kernel
theorem dL_law_168 : decode cL_law 168 = .ok (.iadd, 1) := by decide +kernel
theorem dL_law_169 : decode cL_law 169 = .ok (.iaload, 1) := by decide +kernel
theorem dL_law_170 : decode cL_law 170 = .ok (.i2l, 1) := by decide +kernel
theorem dL_law_171 : decode cL_law 171 = .ok (.bipush 32, 2) := by decide +kernel
theorem dL_law_173 : decode cL_law 173 = .ok (.lshl, 1) := by decide +kernel
theorem dL_law_174 : decode cL_law 174 = .ok (.aload_n 0, 1) := by decide +kernel
theorem dL_law_175 : decode cL_law 175 = .ok (.iload_n 3, 1) := by decide +kernel
theorem dL_law_176 : decode cL_law 176 = .ok (.iconst 2, 1) := by decide +kernel
theorem dL_law_177 : decode cL_law 177 = .ok (.iadd, 1) := by decide +kernel
theorem dL_law_178 : decode cL_law 178 = .ok (.iaload, 1) := by decide +kernel
theorem dL_law_179 : decode cL_law 179 = .ok (.i2l, 1) := by decide +kernel
theorem dL_law_180 : decode cL_law 180 = .ok (.ldc2_w 13, 3) := by decide +kernel
theorem dL_law_183 : decode cL_law 183 = .ok (.land, 1) := by decide +kernel
theorem dL_law_184 : decode cL_law 184 = .ok (.lor, 1) := by decide +kernel
theorem dL_law_185 : decode cL_law 185 = .ok (.invokevirtual 15, 3) := by decide +kernel
theorem dL_law_188 : decode cL_law 188 = .ok (.aload_n 2, 1) := by decide +kernel
theorem dL_law_189 : decode cL_law 189 = .ok (.aload_n 0, 1) := by decide +kernel
theorem dL_law_190 : decode cL_law 190 = .ok (.iload_n 3, 1) := by decide +kernel
theorem dL_law_191 : decode cL_law 191 = .ok (.iconst 1, 1) := by decide +kernel
theorem dL_law_192 : decode cL_law 192 = .ok (.iadd, 1) := by decide +kernel
theorem dL_law_193 : decode cL_law 193 = .ok (.iaload, 1) := by decide +kernel
theorem dL_law_194 : decode cL_law 194 = .ok (.i2l, 1) := by decide +kernel
theorem dL_law_195 : decode cL_law 195 = .ok (.bipush 32, 2) := by decide +kernel
theorem dL_law_197 : decode cL_law 197 = .ok (.lshl, 1) := by decide +kernel
theorem dL_law_198 : decode cL_law 198 = .ok (.aload_n 0, 1) := by decide +kernel
theorem dL_law_199 : decode cL_law 199 = .ok (.iload_n 3, 1) := by decide +kernel
theorem dL_law_200 : decode cL_law 200 = .ok (.iconst 2, 1) := by decide +kernel
theorem dL_law_201 : decode cL_law 201 = .ok (.iadd, 1) := by decide +kernel
theorem dL_law_202 : decode cL_law 202 = .ok (.iaload, 1) := by decide +kernel
theorem dL_law_203 : decode cL_law 203 = .ok (.i2l, 1) := by decide +kernel
theorem dL_law_204 : decode cL_law 204 = .ok (.ldc2_w 13, 3) := by decide +kernel
theorem dL_law_207 : decode cL_law 207 = .ok (.land, 1) := by decide +kernel
theorem dL_law_208 : decode cL_law 208 = .ok (.lor, 1) := by decide +kernel
theorem dL_law_209 : decode cL_law 209 = .ok (.invokevirtual 19, 3) := by decide +kernel
theorem dL_law_212 : decode cL_law 212 = .ok (.if_icmp .eq 640, 3) := by decide +kernel
theorem dL_law_215 : decode cL_law 215 = .ok (.iconst 0, 1) := by decide +kernel
theorem dL_law_216 : decode cL_law 216 = .ok (.ireturn, 1) := by decide +kernel
theorem dL_law_217 : decode cL_law 217 = .ok (.aload_n 1, 1) := by decide +kernel
theorem dL_law_218 : decode cL_law 218 = .ok (.invokevirtual 20, 3) := by decide +kernel
theorem dL_law_221 : decode cL_law 221 = .ok (.aload_n 2, 1) := by decide +kernel
theorem dL_law_222 : decode cL_law 222 = .ok (.invokevirtual 24, 3) := by decide +kernel
theorem dL_law_225 : decode cL_law 225 = .ok (.if_icmp .eq 627, 3) := by decide +kernel
theorem dL_law_228 : decode cL_law 228 = .ok (.iconst 0, 1) := by decide +kernel
theorem dL_law_229 : decode cL_law 229 = .ok (.ireturn, 1) := by decide +kernel
theorem dL_law_230 : decode cL_law 230 = .ok (.aload_n 1, 1) := by decide +kernel
theorem dL_law_231 : decode cL_law 231 = .ok (.invokevirtual 25, 3) := by decide +kernel
theorem dL_law_234 : decode cL_law 234 = .ok (.aload_n 2, 1) := by decide +kernel
theorem dL_law_235 : decode cL_law 235 = .ok (.invokevirtual 28, 3) := by decide +kernel
theorem dL_law_238 : decode cL_law 238 = .ok (.if_icmp .eq 614, 3) := by decide +kernel
theorem dL_law_241 : decode cL_law 241 = .ok (.iconst 0, 1) := by decide +kernel
theorem dL_law_242 : decode cL_law 242 = .ok (.ireturn, 1) := by decide +kernel
theorem dL_law_243 : decode cL_law 243 = .ok (.aload_n 1, 1) := by decide +kernel
theorem dL_law_244 : decode cL_law 244 = .ok (.invokevirtual 29, 3) := by decide +kernel
theorem dL_law_247 : decode cL_law 247 = .ok (.aload_n 2, 1) := by decide +kernel
theorem dL_law_248 : decode cL_law 248 = .ok (.invokevirtual 32, 3) := by decide +kernel
theorem dL_law_251 : decode cL_law 251 = .ok (.if_icmp .eq 601, 3) := by decide +kernel
theorem dL_law_254 : decode cL_law 254 = .ok (.iconst 0, 1) := by decide +kernel
theorem dL_law_255 : decode cL_law 255 = .ok (.ireturn, 1) := by decide +kernel
theorem dL_law_256 : decode cL_law 256 = .ok (.aload_n 1, 1) := by decide +kernel
theorem dL_law_257 : decode cL_law 257 = .ok (.aload_n 0, 1) := by decide +kernel
theorem dL_law_258 : decode cL_law 258 = .ok (.iload_n 3, 1) := by decide +kernel
theorem dL_law_259 : decode cL_law 259 = .ok (.iconst 1, 1) := by decide +kernel
theorem dL_law_260 : decode cL_law 260 = .ok (.iadd, 1) := by decide +kernel
theorem dL_law_261 : decode cL_law 261 = .ok (.iaload, 1) := by decide +kernel
theorem dL_law_262 : decode cL_law 262 = .ok (.invokevirtual 33, 3) := by decide +kernel
theorem dL_law_265 : decode cL_law 265 = .ok (.aload_n 2, 1) := by decide +kernel
theorem dL_law_266 : decode cL_law 266 = .ok (.aload_n 0, 1) := by decide +kernel
theorem dL_law_267 : decode cL_law 267 = .ok (.iload_n 3, 1) := by decide +kernel
theorem dL_law_268 : decode cL_law 268 = .ok (.iconst 1, 1) := by decide +kernel
theorem dL_law_269 : decode cL_law 269 = .ok (.iadd, 1) := by decide +kernel
theorem dL_law_270 : decode cL_law 270 = .ok (.iaload, 1) := by decide +kernel
theorem dL_law_271 : decode cL_law 271 = .ok (.invokevirtual 37, 3) := by decide +kernel
theorem dL_law_274 : decode cL_law 274 = .ok (.if_icmp .eq 578, 3) := by decide +kernel
theorem dL_law_277 : decode cL_law 277 = .ok (.iconst 0, 1) := by decide +kernel
theorem dL_law_278 : decode cL_law 278 = .ok (.ireturn, 1) := by decide +kernel
theorem dL_law_279 : decode cL_law 279 = .ok (.aload_n 1, 1) := by decide +kernel
theorem dL_law_280 : decode cL_law 280 = .ok (.aload_n 0, 1) := by decide +kernel
theorem dL_law_281 : decode cL_law 281 = .ok (.iload_n 3, 1) := by decide +kernel
theorem dL_law_282 : decode cL_law 282 = .ok (.iconst 1, 1) := by decide +kernel
theorem dL_law_283 : decode cL_law 283 = .ok (.iadd, 1) := by decide +kernel
theorem dL_law_284 : decode cL_law 284 = .ok (.iaload, 1) := by decide +kernel
theorem dL_law_285 : decode cL_law 285 = .ok (.aload_n 0, 1) := by decide +kernel
theorem dL_law_286 : decode cL_law 286 = .ok (.iload_n 3, 1) := by decide +kernel
theorem dL_law_287 : decode cL_law 287 = .ok (.iconst 2, 1) := by decide +kernel
theorem dL_law_288 : decode cL_law 288 = .ok (.iadd, 1) := by decide +kernel
theorem dL_law_289 : decode cL_law 289 = .ok (.iaload, 1) := by decide +kernel
theorem dL_law_290 : decode cL_law 290 = .ok (.aload_n 0, 1) := by decide +kernel
theorem dL_law_291 : decode cL_law 291 = .ok (.iload_n 3, 1) := by decide +kernel
theorem dL_law_292 : decode cL_law 292 = .ok (.iconst 3, 1) := by decide +kernel
theorem dL_law_293 : decode cL_law 293 = .ok (.iadd, 1) := by decide +kernel
theorem dL_law_294 : decode cL_law 294 = .ok (.iaload, 1) := by decide +kernel
theorem dL_law_295 : decode cL_law 295 = .ok (.invokevirtual 38, 3) := by decide +kernel
theorem dL_law_298 : decode cL_law 298 = .ok (.aload_n 2, 1) := by decide +kernel
theorem dL_law_299 : decode cL_law 299 = .ok (.aload_n 0, 1) := by decide +kernel
theorem dL_law_300 : decode cL_law 300 = .ok (.iload_n 3, 1) := by decide +kernel
theorem dL_law_301 : decode cL_law 301 = .ok (.iconst 1, 1) := by decide +kernel
theorem dL_law_302 : decode cL_law 302 = .ok (.iadd, 1) := by decide +kernel
theorem dL_law_303 : decode cL_law 303 = .ok (.iaload, 1) := by decide +kernel
theorem dL_law_304 : decode cL_law 304 = .ok (.aload_n 0, 1) := by decide +kernel
theorem dL_law_305 : decode cL_law 305 = .ok (.iload_n 3, 1) := by decide +kernel
theorem dL_law_306 : decode cL_law 306 = .ok (.iconst 2, 1) := by decide +kernel
theorem dL_law_307 : decode cL_law 307 = .ok (.iadd, 1) := by decide +kernel
theorem dL_law_308 : decode cL_law 308 = .ok (.iaload, 1) := by decide +kernel
theorem dL_law_309 : decode cL_law 309 = .ok (.aload_n 0, 1) := by decide +kernel
theorem dL_law_310 : decode cL_law 310 = .ok (.iload_n 3, 1) := by decide +kernel
theorem dL_law_311 : decode cL_law 311 = .ok (.iconst 3, 1) := by decide +kernel
theorem dL_law_312 : decode cL_law 312 = .ok (.iadd, 1) := by decide +kernel
theorem dL_law_313 : decode cL_law 313 = .ok (.iaload, 1) := by decide +kernel
theorem dL_law_314 : decode cL_law 314 = .ok (.invokevirtual 42, 3) := by decide +kernel
theorem dL_law_317 : decode cL_law 317 = .ok (.if_icmp .eq 535, 3) := by decide +kernel
theorem dL_law_320 : decode cL_law 320 = .ok (.iconst 0, 1) := by decide +kernel
theorem dL_law_321 : decode cL_law 321 = .ok (.ireturn, 1) := by decide +kernel
theorem dL_law_322 : decode cL_law 322 = .ok (.aload_n 1, 1) := by decide +kernel
theorem dL_law_323 : decode cL_law 323 = .ok (.aload_n 0, 1) := by decide +kernel
theorem dL_law_324 : decode cL_law 324 = .ok (.iload_n 3, 1) := by decide +kernel
theorem dL_law_325 : decode cL_law 325 = .ok (.iconst 1, 1) := by decide +kernel
theorem dL_law_326 : decode cL_law 326 = .ok (.iadd, 1) := by decide +kernel
theorem dL_law_327 : decode cL_law 327 = .ok (.iaload, 1) := by decide +kernel
theorem dL_law_328 : decode cL_law 328 = .ok (.aload_n 0, 1) := by decide +kernel
theorem dL_law_329 : decode cL_law 329 = .ok (.iload_n 3, 1) := by decide +kernel
theorem dL_law_330 : decode cL_law 330 = .ok (.iconst 2, 1) := by decide +kernel
theorem dL_law_331 : decode cL_law 331 = .ok (.iadd, 1) := by decide +kernel
theorem dL_law_332 : decode cL_law 332 = .ok (.iaload, 1) := by decide +kernel
theorem dL_law_333 : decode cL_law 333 = .ok (.invokevirtual 43, 3) := by decide +kernel
theorem dL_law_336 : decode cL_law 336 = .ok (.aload_n 2, 1) := by decide +kernel
theorem dL_law_337 : decode cL_law 337 = .ok (.aload_n 0, 1) := by decide +kernel
theorem dL_law_338 : decode cL_law 338 = .ok (.iload_n 3, 1) := by decide +kernel
theorem dL_law_339 : decode cL_law 339 = .ok (.iconst 1, 1) := by decide +kernel
theorem dL_law_340 : decode cL_law 340 = .ok (.iadd, 1) := by decide +kernel
theorem dL_law_341 : decode cL_law 341 = .ok (.iaload, 1) := by decide +kernel
theorem dL_law_342 : decode cL_law 342 = .ok (.aload_n 0, 1) := by decide +kernel
theorem dL_law_343 : decode cL_law 343 = .ok (.iload_n 3, 1) := by decide +kernel
theorem dL_law_344 : decode cL_law 344 = .ok (.iconst 2, 1) := by decide +kernel
theorem dL_law_345 : decode cL_law 345 = .ok (.iadd, 1) := by decide +kernel
theorem dL_law_346 : decode cL_law 346 = .ok (.iaload, 1) := by decide +kernel
theorem dL_law_347 : decode cL_law 347 = .ok (.invokevirtual 47, 3) := by decide +kernel
theorem dL_law_350 : decode cL_law 350 = .ok (.if_icmp .eq 502, 3) := by decide +kernel
theorem dL_law_353 : decode cL_law 353 = .ok (.iconst 0, 1) := by decide +kernel
theorem dL_law_354 : decode cL_law 354 = .ok (.ireturn, 1) := by decide +kernel
theorem dL_law_355 : decode cL_law 355 = .ok (.aload_n 1, 1) := by decide +kernel
theorem dL_law_356 : decode cL_law 356 = .ok (.aload_n 0, 1) := by decide +kernel
theorem dL_law_357 : decode cL_law 357 = .ok (.iload_n 3, 1) := by decide +kernel
theorem dL_law_358 : decode cL_law 358 = .ok (.iconst 1, 1) := by decide +kernel
theorem dL_law_359 : decode cL_law 359 = .ok (.iadd, 1) := by decide +kernel
theorem dL_law_360 : decode cL_law 360 = .ok (.iaload, 1) := by decide +kernel
theorem dL_law_361 : decode cL_law 361 = .ok (.aload_n 0, 1) := by decide +kernel
theorem dL_law_362 : decode cL_law 362 = .ok (.iload_n 3, 1) := by decide +kernel
theorem dL_law_363 : decode cL_law 363 = .ok (.iconst 2, 1) := by decide +kernel
theorem dL_law_364 : decode cL_law 364 = .ok (.iadd, 1) := by decide +kernel
theorem dL_law_365 : decode cL_law 365 = .ok (.iaload, 1) := by decide +kernel
theorem dL_law_366 : decode cL_law 366 = .ok (.invokevirtual 48, 3) := by decide +kernel
theorem dL_law_369 : decode cL_law 369 = .ok (.aload_n 2, 1) := by decide +kernel
theorem dL_law_370 : decode cL_law 370 = .ok (.aload_n 0, 1) := by decide +kernel
theorem dL_law_371 : decode cL_law 371 = .ok (.iload_n 3, 1) := by decide +kernel
theorem dL_law_372 : decode cL_law 372 = .ok (.iconst 1, 1) := by decide +kernel
theorem dL_law_373 : decode cL_law 373 = .ok (.iadd, 1) := by decide +kernel
theorem dL_law_374 : decode cL_law 374 = .ok (.iaload, 1) := by decide +kernel
theorem dL_law_375 : decode cL_law 375 = .ok (.aload_n 0, 1) := by decide +kernel
theorem dL_law_376 : decode cL_law 376 = .ok (.iload_n 3, 1) := by decide +kernel
theorem dL_law_377 : decode cL_law 377 = .ok (.iconst 2, 1) := by decide +kernel
theorem dL_law_378 : decode cL_law 378 = .ok (.iadd, 1) := by decide +kernel
theorem dL_law_379 : decode cL_law 379 = .ok (.iaload, 1) := by decide +kernel
theorem dL_law_380 : decode cL_law 380 = .ok (.invokevirtual 51, 3) := by decide +kernel
theorem dL_law_383 : decode cL_law 383 = .ok (.if_icmp .eq 469, 3) := by decide +kernel
theorem dL_law_386 : decode cL_law 386 = .ok (.iconst 0, 1) := by decide +kernel
theorem dL_law_387 : decode cL_law 387 = .ok (.ireturn, 1) := by decide +kernel
theorem dL_law_388 : decode cL_law 388 = .ok (.aload_n 1, 1) := by decide +kernel
theorem dL_law_389 : decode cL_law 389 = .ok (.aload_n 0, 1) := by decide +kernel
theorem dL_law_390 : decode cL_law 390 = .ok (.iload_n 3, 1) := by decide +kernel
theorem dL_law_391 : decode cL_law 391 = .ok (.iconst 1, 1) := by decide +kernel
theorem dL_law_392 : decode cL_law 392 = .ok (.iadd, 1) := by decide +kernel
theorem dL_law_393 : decode cL_law 393 = .ok (.iaload, 1) := by decide +kernel
theorem dL_law_394 : decode cL_law 394 = .ok (.aload_n 0, 1) := by decide +kernel
theorem dL_law_395 : decode cL_law 395 = .ok (.iload_n 3, 1) := by decide +kernel
theorem dL_law_396 : decode cL_law 396 = .ok (.iconst 2, 1) := by decide +kernel
theorem dL_law_397 : decode cL_law 397 = .ok (.iadd, 1) := by decide +kernel
theorem dL_law_398 : decode cL_law 398 = .ok (.iaload, 1) := by decide +kernel
theorem dL_law_399 : decode cL_law 399 = .ok (.invokevirtual 52, 3) := by decide +kernel
theorem dL_law_402 : decode cL_law 402 = .ok (.aload_n 2, 1) := by decide +kernel
theorem dL_law_403 : decode cL_law 403 = .ok (.aload_n 0, 1) := by decide +kernel
theorem dL_law_404 : decode cL_law 404 = .ok (.iload_n 3, 1) := by decide +kernel
theorem dL_law_405 : decode cL_law 405 = .ok (.iconst 1, 1) := by decide +kernel
theorem dL_law_406 : decode cL_law 406 = .ok (.iadd, 1) := by decide +kernel
theorem dL_law_407 : decode cL_law 407 = .ok (.iaload, 1) := by decide +kernel
theorem dL_law_408 : decode cL_law 408 = .ok (.aload_n 0, 1) := by decide +kernel
theorem dL_law_409 : decode cL_law 409 = .ok (.iload_n 3, 1) := by decide +kernel
theorem dL_law_410 : decode cL_law 410 = .ok (.iconst 2, 1) := by decide +kernel
theorem dL_law_411 : decode cL_law 411 = .ok (.iadd, 1) := by decide +kernel
theorem dL_law_412 : decode cL_law 412 = .ok (.iaload, 1) := by decide +kernel
theorem dL_law_413 : decode cL_law 413 = .ok (.invokevirtual 55, 3) := by decide +kernel
theorem dL_law_416 : decode cL_law 416 = .ok (.if_icmp .eq 436, 3) := by decide +kernel
theorem dL_law_419 : decode cL_law 419 = .ok (.iconst 0, 1) := by decide +kernel
theorem dL_law_420 : decode cL_law 420 = .ok (.ireturn, 1) := by decide +kernel
theorem dL_law_421 : decode cL_law 421 = .ok (.aload_n 1, 1) := by decide +kernel
theorem dL_law_422 : decode cL_law 422 = .ok (.aload_n 0, 1) := by decide +kernel
theorem dL_law_423 : decode cL_law 423 = .ok (.iload_n 3, 1) := by decide +kernel
theorem dL_law_424 : decode cL_law 424 = .ok (.iconst 1, 1) := by decide +kernel
theorem dL_law_425 : decode cL_law 425 = .ok (.iadd, 1) := by decide +kernel
theorem dL_law_426 : decode cL_law 426 = .ok (.iaload, 1) := by decide +kernel
theorem dL_law_427 : decode cL_law 427 = .ok (.invokevirtual 56, 3) := by decide +kernel
theorem dL_law_430 : decode cL_law 430 = .ok (.aload_n 2, 1) := by decide +kernel
theorem dL_law_431 : decode cL_law 431 = .ok (.aload_n 0, 1) := by decide +kernel
theorem dL_law_432 : decode cL_law 432 = .ok (.iload_n 3, 1) := by decide +kernel
theorem dL_law_433 : decode cL_law 433 = .ok (.iconst 1, 1) := by decide +kernel
theorem dL_law_434 : decode cL_law 434 = .ok (.iadd, 1) := by decide +kernel
theorem dL_law_435 : decode cL_law 435 = .ok (.iaload, 1) := by decide +kernel
theorem dL_law_436 : decode cL_law 436 = .ok (.invokevirtual 59, 3) := by decide +kernel
theorem dL_law_439 : decode cL_law 439 = .ok (.if_icmp .eq 413, 3) := by decide +kernel
theorem dL_law_442 : decode cL_law 442 = .ok (.iconst 0, 1) := by decide +kernel
theorem dL_law_443 : decode cL_law 443 = .ok (.ireturn, 1) := by decide +kernel
theorem dL_law_444 : decode cL_law 444 = .ok (.aload_n 1, 1) := by decide +kernel
theorem dL_law_445 : decode cL_law 445 = .ok (.aload_n 0, 1) := by decide +kernel
theorem dL_law_446 : decode cL_law 446 = .ok (.iload_n 3, 1) := by decide +kernel
theorem dL_law_447 : decode cL_law 447 = .ok (.iconst 1, 1) := by decide +kernel
theorem dL_law_448 : decode cL_law 448 = .ok (.iadd, 1) := by decide +kernel
theorem dL_law_449 : decode cL_law 449 = .ok (.iaload, 1) := by decide +kernel
theorem dL_law_450 : decode cL_law 450 = .ok (.invokevirtual 60, 3) := by decide +kernel
theorem dL_law_453 : decode cL_law 453 = .ok (.aload_n 2, 1) := by decide +kernel
theorem dL_law_454 : decode cL_law 454 = .ok (.aload_n 0, 1) := by decide +kernel
theorem dL_law_455 : decode cL_law 455 = .ok (.iload_n 3, 1) := by decide +kernel
theorem dL_law_456 : decode cL_law 456 = .ok (.iconst 1, 1) := by decide +kernel
theorem dL_law_457 : decode cL_law 457 = .ok (.iadd, 1) := by decide +kernel
theorem dL_law_458 : decode cL_law 458 = .ok (.iaload, 1) := by decide +kernel
theorem dL_law_459 : decode cL_law 459 = .ok (.invokevirtual 63, 3) := by decide +kernel
theorem dL_law_462 : decode cL_law 462 = .ok (.if_icmp .eq 390, 3) := by decide +kernel
theorem dL_law_465 : decode cL_law 465 = .ok (.iconst 0, 1) := by decide +kernel
theorem dL_law_466 : decode cL_law 466 = .ok (.ireturn, 1) := by decide +kernel
theorem dL_law_467 : decode cL_law 467 = .ok (.aload_n 1, 1) := by decide +kernel
theorem dL_law_468 : decode cL_law 468 = .ok (.aload_n 0, 1) := by decide +kernel
theorem dL_law_469 : decode cL_law 469 = .ok (.iload_n 3, 1) := by decide +kernel
theorem dL_law_470 : decode cL_law 470 = .ok (.iconst 1, 1) := by decide +kernel
theorem dL_law_471 : decode cL_law 471 = .ok (.iadd, 1) := by decide +kernel
theorem dL_law_472 : decode cL_law 472 = .ok (.iaload, 1) := by decide +kernel
theorem dL_law_473 : decode cL_law 473 = .ok (.invokevirtual 64, 3) := by decide +kernel
theorem dL_law_476 : decode cL_law 476 = .ok (.aload_n 2, 1) := by decide +kernel
theorem dL_law_477 : decode cL_law 477 = .ok (.aload_n 0, 1) := by decide +kernel
theorem dL_law_478 : decode cL_law 478 = .ok (.iload_n 3, 1) := by decide +kernel
theorem dL_law_479 : decode cL_law 479 = .ok (.iconst 1, 1) := by decide +kernel
theorem dL_law_480 : decode cL_law 480 = .ok (.iadd, 1) := by decide +kernel
theorem dL_law_481 : decode cL_law 481 = .ok (.iaload, 1) := by decide +kernel
theorem dL_law_482 : decode cL_law 482 = .ok (.invokevirtual 67, 3) := by decide +kernel
theorem dL_law_485 : decode cL_law 485 = .ok (.if_icmp .eq 367, 3) := by decide +kernel
theorem dL_law_488 : decode cL_law 488 = .ok (.iconst 0, 1) := by decide +kernel
theorem dL_law_489 : decode cL_law 489 = .ok (.ireturn, 1) := by decide +kernel
theorem dL_law_490 : decode cL_law 490 = .ok (.aload_n 1, 1) := by decide +kernel
theorem dL_law_491 : decode cL_law 491 = .ok (.aload_n 0, 1) := by decide +kernel
theorem dL_law_492 : decode cL_law 492 = .ok (.iload_n 3, 1) := by decide +kernel
theorem dL_law_493 : decode cL_law 493 = .ok (.iconst 1, 1) := by decide +kernel
theorem dL_law_494 : decode cL_law 494 = .ok (.iadd, 1) := by decide +kernel
theorem dL_law_495 : decode cL_law 495 = .ok (.iaload, 1) := by decide +kernel
theorem dL_law_496 : decode cL_law 496 = .ok (.invokevirtual 68, 3) := by decide +kernel
theorem dL_law_499 : decode cL_law 499 = .ok (.aload_n 2, 1) := by decide +kernel
theorem dL_law_500 : decode cL_law 500 = .ok (.aload_n 0, 1) := by decide +kernel
theorem dL_law_501 : decode cL_law 501 = .ok (.iload_n 3, 1) := by decide +kernel
theorem dL_law_502 : decode cL_law 502 = .ok (.iconst 1, 1) := by decide +kernel
theorem dL_law_503 : decode cL_law 503 = .ok (.iadd, 1) := by decide +kernel
theorem dL_law_504 : decode cL_law 504 = .ok (.iaload, 1) := by decide +kernel
theorem dL_law_505 : decode cL_law 505 = .ok (.invokevirtual 71, 3) := by decide +kernel
theorem dL_law_508 : decode cL_law 508 = .ok (.if_icmp .eq 344, 3) := by decide +kernel
theorem dL_law_511 : decode cL_law 511 = .ok (.iconst 0, 1) := by decide +kernel
theorem dL_law_512 : decode cL_law 512 = .ok (.ireturn, 1) := by decide +kernel
theorem dL_law_513 : decode cL_law 513 = .ok (.aload_n 1, 1) := by decide +kernel
theorem dL_law_514 : decode cL_law 514 = .ok (.aload_n 0, 1) := by decide +kernel
theorem dL_law_515 : decode cL_law 515 = .ok (.iload_n 3, 1) := by decide +kernel
theorem dL_law_516 : decode cL_law 516 = .ok (.iconst 1, 1) := by decide +kernel
theorem dL_law_517 : decode cL_law 517 = .ok (.iadd, 1) := by decide +kernel
theorem dL_law_518 : decode cL_law 518 = .ok (.iaload, 1) := by decide +kernel
theorem dL_law_519 : decode cL_law 519 = .ok (.invokevirtual 72, 3) := by decide +kernel
theorem dL_law_522 : decode cL_law 522 = .ok (.aload_n 2, 1) := by decide +kernel
theorem dL_law_523 : decode cL_law 523 = .ok (.aload_n 0, 1) := by decide +kernel
theorem dL_law_524 : decode cL_law 524 = .ok (.iload_n 3, 1) := by decide +kernel
theorem dL_law_525 : decode cL_law 525 = .ok (.iconst 1, 1) := by decide +kernel
theorem dL_law_526 : decode cL_law 526 = .ok (.iadd, 1) := by decide +kernel
theorem dL_law_527 : decode cL_law 527 = .ok (.iaload, 1) := by decide +kernel
theorem dL_law_528 : decode cL_law 528 = .ok (.invokevirtual 75, 3) := by decide +kernel
theorem dL_law_531 : decode cL_law 531 = .ok (.if_icmp .eq 321, 3) := by decide +kernel
theorem dL_law_534 : decode cL_law 534 = .ok (.iconst 0, 1) := by decide +kernel
theorem dL_law_535 : decode cL_law 535 = .ok (.ireturn, 1) := by decide +kernel
theorem dL_law_536 : decode cL_law 536 = .ok (.aload_n 1, 1) := by decide +kernel
theorem dL_law_537 : decode cL_law 537 = .ok (.aload_n 0, 1) := by decide +kernel
theorem dL_law_538 : decode cL_law 538 = .ok (.iload_n 3, 1) := by decide +kernel
theorem dL_law_539 : decode cL_law 539 = .ok (.iconst 1, 1) := by decide +kernel
theorem dL_law_540 : decode cL_law 540 = .ok (.iadd, 1) := by decide +kernel
theorem dL_law_541 : decode cL_law 541 = .ok (.iaload, 1) := by decide +kernel
theorem dL_law_542 : decode cL_law 542 = .ok (.invokevirtual 76, 3) := by decide +kernel
theorem dL_law_545 : decode cL_law 545 = .ok (.aload_n 2, 1) := by decide +kernel
theorem dL_law_546 : decode cL_law 546 = .ok (.aload_n 0, 1) := by decide +kernel
theorem dL_law_547 : decode cL_law 547 = .ok (.iload_n 3, 1) := by decide +kernel
theorem dL_law_548 : decode cL_law 548 = .ok (.iconst 1, 1) := by decide +kernel
theorem dL_law_549 : decode cL_law 549 = .ok (.iadd, 1) := by decide +kernel
theorem dL_law_550 : decode cL_law 550 = .ok (.iaload, 1) := by decide +kernel
theorem dL_law_551 : decode cL_law 551 = .ok (.invokevirtual 79, 3) := by decide +kernel
theorem dL_law_554 : decode cL_law 554 = .ok (.if_icmp .eq 298, 3) := by decide +kernel
theorem dL_law_557 : decode cL_law 557 = .ok (.iconst 0, 1) := by decide +kernel
theorem dL_law_558 : decode cL_law 558 = .ok (.ireturn, 1) := by decide +kernel
theorem dL_law_559 : decode cL_law 559 = .ok (.aload_n 1, 1) := by decide +kernel
theorem dL_law_560 : decode cL_law 560 = .ok (.invokevirtual 80, 3) := by decide +kernel
theorem dL_law_563 : decode cL_law 563 = .ok (.aload_n 2, 1) := by decide +kernel
theorem dL_law_564 : decode cL_law 564 = .ok (.invokevirtual 83, 3) := by decide +kernel
theorem dL_law_567 : decode cL_law 567 = .ok (.if_icmp .eq 285, 3) := by decide +kernel
theorem dL_law_570 : decode cL_law 570 = .ok (.iconst 0, 1) := by decide +kernel
theorem dL_law_571 : decode cL_law 571 = .ok (.ireturn, 1) := by decide +kernel
theorem dL_law_572 : decode cL_law 572 = .ok (.aload_n 1, 1) := by decide +kernel
theorem dL_law_573 : decode cL_law 573 = .ok (.aload_n 0, 1) := by decide +kernel
theorem dL_law_574 : decode cL_law 574 = .ok (.iload_n 3, 1) := by decide +kernel
theorem dL_law_575 : decode cL_law 575 = .ok (.iconst 1, 1) := by decide +kernel
theorem dL_law_576 : decode cL_law 576 = .ok (.iadd, 1) := by decide +kernel
theorem dL_law_577 : decode cL_law 577 = .ok (.iaload, 1) := by decide +kernel
theorem dL_law_578 : decode cL_law 578 = .ok (.invokevirtual 84, 3) := by decide +kernel
theorem dL_law_581 : decode cL_law 581 = .ok (.aload_n 2, 1) := by decide +kernel
theorem dL_law_582 : decode cL_law 582 = .ok (.aload_n 0, 1) := by decide +kernel
theorem dL_law_583 : decode cL_law 583 = .ok (.iload_n 3, 1) := by decide +kernel
theorem dL_law_584 : decode cL_law 584 = .ok (.iconst 1, 1) := by decide +kernel
theorem dL_law_585 : decode cL_law 585 = .ok (.iadd, 1) := by decide +kernel
theorem dL_law_586 : decode cL_law 586 = .ok (.iaload, 1) := by decide +kernel
theorem dL_law_587 : decode cL_law 587 = .ok (.invokevirtual 87, 3) := by decide +kernel
theorem dL_law_590 : decode cL_law 590 = .ok (.if_icmp .eq 262, 3) := by decide +kernel
theorem dL_law_593 : decode cL_law 593 = .ok (.iconst 0, 1) := by decide +kernel
theorem dL_law_594 : decode cL_law 594 = .ok (.ireturn, 1) := by decide +kernel
theorem dL_law_595 : decode cL_law 595 = .ok (.aload_n 1, 1) := by decide +kernel
theorem dL_law_596 : decode cL_law 596 = .ok (.invokevirtual 88, 3) := by decide +kernel
theorem dL_law_599 : decode cL_law 599 = .ok (.aload_n 2, 1) := by decide +kernel
theorem dL_law_600 : decode cL_law 600 = .ok (.invokevirtual 91, 3) := by decide +kernel
theorem dL_law_603 : decode cL_law 603 = .ok (.if_icmp .eq 249, 3) := by decide +kernel
theorem dL_law_606 : decode cL_law 606 = .ok (.iconst 0, 1) := by decide +kernel
theorem dL_law_607 : decode cL_law 607 = .ok (.ireturn, 1) := by decide +kernel
theorem dL_law_608 : decode cL_law 608 = .ok (.aload_n 1, 1) := by decide +kernel
theorem dL_law_609 : decode cL_law 609 = .ok (.aload_n 0, 1) := by decide +kernel
theorem dL_law_610 : decode cL_law 610 = .ok (.iload_n 3, 1) := by decide +kernel
theorem dL_law_611 : decode cL_law 611 = .ok (.iconst 1, 1) := by decide +kernel
theorem dL_law_612 : decode cL_law 612 = .ok (.iadd, 1) := by decide +kernel
theorem dL_law_613 : decode cL_law 613 = .ok (.iaload, 1) := by decide +kernel
theorem dL_law_614 : decode cL_law 614 = .ok (.aload_n 0, 1) := by decide +kernel
theorem dL_law_615 : decode cL_law 615 = .ok (.iload_n 3, 1) := by decide +kernel
theorem dL_law_616 : decode cL_law 616 = .ok (.iconst 2, 1) := by decide +kernel
theorem dL_law_617 : decode cL_law 617 = .ok (.iadd, 1) := by decide +kernel
theorem dL_law_618 : decode cL_law 618 = .ok (.iaload, 1) := by decide +kernel
theorem dL_law_619 : decode cL_law 619 = .ok (.invokevirtual 92, 3) := by decide +kernel
theorem dL_law_622 : decode cL_law 622 = .ok (.aload_n 2, 1) := by decide +kernel
theorem dL_law_623 : decode cL_law 623 = .ok (.aload_n 0, 1) := by decide +kernel
theorem dL_law_624 : decode cL_law 624 = .ok (.iload_n 3, 1) := by decide +kernel
theorem dL_law_625 : decode cL_law 625 = .ok (.iconst 1, 1) := by decide +kernel
theorem dL_law_626 : decode cL_law 626 = .ok (.iadd, 1) := by decide +kernel
theorem dL_law_627 : decode cL_law 627 = .ok (.iaload, 1) := by decide +kernel
theorem dL_law_628 : decode cL_law 628 = .ok (.aload_n 0, 1) := by decide +kernel
theorem dL_law_629 : decode cL_law 629 = .ok (.iload_n 3, 1) := by decide +kernel
theorem dL_law_630 : decode cL_law 630 = .ok (.iconst 2, 1) := by decide +kernel
theorem dL_law_631 : decode cL_law 631 = .ok (.iadd, 1) := by decide +kernel
theorem dL_law_632 : decode cL_law 632 = .ok (.iaload, 1) := by decide +kernel
theorem dL_law_633 : decode cL_law 633 = .ok (.invokevirtual 95, 3) := by decide +kernel
theorem dL_law_636 : decode cL_law 636 = .ok (.if_icmp .eq 216, 3) := by decide +kernel
theorem dL_law_639 : decode cL_law 639 = .ok (.iconst 0, 1) := by decide +kernel
theorem dL_law_640 : decode cL_law 640 = .ok (.ireturn, 1) := by decide +kernel
theorem dL_law_641 : decode cL_law 641 = .ok (.aload_n 1, 1) := by decide +kernel
theorem dL_law_642 : decode cL_law 642 = .ok (.aload_n 0, 1) := by decide +kernel
theorem dL_law_643 : decode cL_law 643 = .ok (.iload_n 3, 1) := by decide +kernel
theorem dL_law_644 : decode cL_law 644 = .ok (.iconst 1, 1) := by decide +kernel
theorem dL_law_645 : decode cL_law 645 = .ok (.iadd, 1) := by decide +kernel
theorem dL_law_646 : decode cL_law 646 = .ok (.iaload, 1) := by decide +kernel
theorem dL_law_647 : decode cL_law 647 = .ok (.invokevirtual 96, 3) := by decide +kernel
theorem dL_law_650 : decode cL_law 650 = .ok (.aload_n 2, 1) := by decide +kernel
theorem dL_law_651 : decode cL_law 651 = .ok (.aload_n 0, 1) := by decide +kernel
theorem dL_law_652 : decode cL_law 652 = .ok (.iload_n 3, 1) := by decide +kernel
theorem dL_law_653 : decode cL_law 653 = .ok (.iconst 1, 1) := by decide +kernel
theorem dL_law_654 : decode cL_law 654 = .ok (.iadd, 1) := by decide +kernel
theorem dL_law_655 : decode cL_law 655 = .ok (.iaload, 1) := by decide +kernel
theorem dL_law_656 : decode cL_law 656 = .ok (.invokevirtual 99, 3) := by decide +kernel
theorem dL_law_659 : decode cL_law 659 = .ok (.if_icmp .eq 193, 3) := by decide +kernel
theorem dL_law_662 : decode cL_law 662 = .ok (.iconst 0, 1) := by decide +kernel
theorem dL_law_663 : decode cL_law 663 = .ok (.ireturn, 1) := by decide +kernel
theorem dL_law_664 : decode cL_law 664 = .ok (.aload_n 1, 1) := by decide +kernel
theorem dL_law_665 : decode cL_law 665 = .ok (.invokevirtual 100, 3) := by decide +kernel
theorem dL_law_668 : decode cL_law 668 = .ok (.aload_n 2, 1) := by decide +kernel
theorem dL_law_669 : decode cL_law 669 = .ok (.invokevirtual 103, 3) := by decide +kernel
theorem dL_law_672 : decode cL_law 672 = .ok (.if_icmp .eq 180, 3) := by decide +kernel
theorem dL_law_675 : decode cL_law 675 = .ok (.iconst 0, 1) := by decide +kernel
theorem dL_law_676 : decode cL_law 676 = .ok (.ireturn, 1) := by decide +kernel
theorem dL_law_677 : decode cL_law 677 = .ok (.aload_n 1, 1) := by decide +kernel
theorem dL_law_678 : decode cL_law 678 = .ok (.aload_n 0, 1) := by decide +kernel
theorem dL_law_679 : decode cL_law 679 = .ok (.iload_n 3, 1) := by decide +kernel
theorem dL_law_680 : decode cL_law 680 = .ok (.iconst 1, 1) := by decide +kernel
theorem dL_law_681 : decode cL_law 681 = .ok (.iadd, 1) := by decide +kernel
theorem dL_law_682 : decode cL_law 682 = .ok (.iaload, 1) := by decide +kernel
theorem dL_law_683 : decode cL_law 683 = .ok (.aload_n 0, 1) := by decide +kernel
theorem dL_law_684 : decode cL_law 684 = .ok (.iload_n 3, 1) := by decide +kernel
theorem dL_law_685 : decode cL_law 685 = .ok (.iconst 2, 1) := by decide +kernel
theorem dL_law_686 : decode cL_law 686 = .ok (.iadd, 1) := by decide +kernel
theorem dL_law_687 : decode cL_law 687 = .ok (.iaload, 1) := by decide +kernel
theorem dL_law_688 : decode cL_law 688 = .ok (.invokevirtual 104, 3) := by decide +kernel
theorem dL_law_691 : decode cL_law 691 = .ok (.aload_n 2, 1) := by decide +kernel
theorem dL_law_692 : decode cL_law 692 = .ok (.aload_n 0, 1) := by decide +kernel
theorem dL_law_693 : decode cL_law 693 = .ok (.iload_n 3, 1) := by decide +kernel
theorem dL_law_694 : decode cL_law 694 = .ok (.iconst 1, 1) := by decide +kernel
theorem dL_law_695 : decode cL_law 695 = .ok (.iadd, 1) := by decide +kernel
theorem dL_law_696 : decode cL_law 696 = .ok (.iaload, 1) := by decide +kernel
theorem dL_law_697 : decode cL_law 697 = .ok (.aload_n 0, 1) := by decide +kernel
theorem dL_law_698 : decode cL_law 698 = .ok (.iload_n 3, 1) := by decide +kernel
theorem dL_law_699 : decode cL_law 699 = .ok (.iconst 2, 1) := by decide +kernel
theorem dL_law_700 : decode cL_law 700 = .ok (.iadd, 1) := by decide +kernel
theorem dL_law_701 : decode cL_law 701 = .ok (.iaload, 1) := by decide +kernel
theorem dL_law_702 : decode cL_law 702 = .ok (.invokevirtual 107, 3) := by decide +kernel
theorem dL_law_705 : decode cL_law 705 = .ok (.if_icmp .eq 147, 3) := by decide +kernel
theorem dL_law_708 : decode cL_law 708 = .ok (.iconst 0, 1) := by decide +kernel
theorem dL_law_709 : decode cL_law 709 = .ok (.ireturn, 1) := by decide +kernel
theorem dL_law_710 : decode cL_law 710 = .ok (.aload_n 1, 1) := by decide +kernel
theorem dL_law_711 : decode cL_law 711 = .ok (.aload_n 0, 1) := by decide +kernel
theorem dL_law_712 : decode cL_law 712 = .ok (.iload_n 3, 1) := by decide +kernel
theorem dL_law_713 : decode cL_law 713 = .ok (.iconst 1, 1) := by decide +kernel
theorem dL_law_714 : decode cL_law 714 = .ok (.iadd, 1) := by decide +kernel
theorem dL_law_715 : decode cL_law 715 = .ok (.iaload, 1) := by decide +kernel
theorem dL_law_716 : decode cL_law 716 = .ok (.invokevirtual 108, 3) := by decide +kernel
theorem dL_law_719 : decode cL_law 719 = .ok (.aload_n 2, 1) := by decide +kernel
theorem dL_law_720 : decode cL_law 720 = .ok (.aload_n 0, 1) := by decide +kernel
theorem dL_law_721 : decode cL_law 721 = .ok (.iload_n 3, 1) := by decide +kernel
theorem dL_law_722 : decode cL_law 722 = .ok (.iconst 1, 1) := by decide +kernel
theorem dL_law_723 : decode cL_law 723 = .ok (.iadd, 1) := by decide +kernel
theorem dL_law_724 : decode cL_law 724 = .ok (.iaload, 1) := by decide +kernel
theorem dL_law_725 : decode cL_law 725 = .ok (.invokevirtual 111, 3) := by decide +kernel
theorem dL_law_728 : decode cL_law 728 = .ok (.if_icmp .eq 124, 3) := by decide +kernel
theorem dL_law_731 : decode cL_law 731 = .ok (.iconst 0, 1) := by decide +kernel
theorem dL_law_732 : decode cL_law 732 = .ok (.ireturn, 1) := by decide +kernel
theorem dL_law_733 : decode cL_law 733 = .ok (.aload_n 1, 1) := by decide +kernel
theorem dL_law_734 : decode cL_law 734 = .ok (.aload_n 0, 1) := by decide +kernel
theorem dL_law_735 : decode cL_law 735 = .ok (.iload_n 3, 1) := by decide +kernel
theorem dL_law_736 : decode cL_law 736 = .ok (.iconst 1, 1) := by decide +kernel
theorem dL_law_737 : decode cL_law 737 = .ok (.iadd, 1) := by decide +kernel
theorem dL_law_738 : decode cL_law 738 = .ok (.iaload, 1) := by decide +kernel
theorem dL_law_739 : decode cL_law 739 = .ok (.invokevirtual 112, 3) := by decide +kernel
theorem dL_law_742 : decode cL_law 742 = .ok (.aload_n 2, 1) := by decide +kernel
theorem dL_law_743 : decode cL_law 743 = .ok (.aload_n 0, 1) := by decide +kernel
theorem dL_law_744 : decode cL_law 744 = .ok (.iload_n 3, 1) := by decide +kernel
theorem dL_law_745 : decode cL_law 745 = .ok (.iconst 1, 1) := by decide +kernel
theorem dL_law_746 : decode cL_law 746 = .ok (.iadd, 1) := by decide +kernel
theorem dL_law_747 : decode cL_law 747 = .ok (.iaload, 1) := by decide +kernel
theorem dL_law_748 : decode cL_law 748 = .ok (.invokevirtual 115, 3) := by decide +kernel
theorem dL_law_751 : decode cL_law 751 = .ok (.if_icmp .eq 101, 3) := by decide +kernel
theorem dL_law_754 : decode cL_law 754 = .ok (.iconst 0, 1) := by decide +kernel
theorem dL_law_755 : decode cL_law 755 = .ok (.ireturn, 1) := by decide +kernel
theorem dL_law_756 : decode cL_law 756 = .ok (.aload_n 1, 1) := by decide +kernel
theorem dL_law_757 : decode cL_law 757 = .ok (.aload_n 0, 1) := by decide +kernel
theorem dL_law_758 : decode cL_law 758 = .ok (.iload_n 3, 1) := by decide +kernel
theorem dL_law_759 : decode cL_law 759 = .ok (.iconst 1, 1) := by decide +kernel
theorem dL_law_760 : decode cL_law 760 = .ok (.iadd, 1) := by decide +kernel
theorem dL_law_761 : decode cL_law 761 = .ok (.iaload, 1) := by decide +kernel
theorem dL_law_762 : decode cL_law 762 = .ok (.aload_n 0, 1) := by decide +kernel
theorem dL_law_763 : decode cL_law 763 = .ok (.iload_n 3, 1) := by decide +kernel
theorem dL_law_764 : decode cL_law 764 = .ok (.iconst 2, 1) := by decide +kernel
theorem dL_law_765 : decode cL_law 765 = .ok (.iadd, 1) := by decide +kernel
theorem dL_law_766 : decode cL_law 766 = .ok (.iaload, 1) := by decide +kernel
theorem dL_law_767 : decode cL_law 767 = .ok (.invokevirtual 116, 3) := by decide +kernel
theorem dL_law_770 : decode cL_law 770 = .ok (.aload_n 2, 1) := by decide +kernel
theorem dL_law_771 : decode cL_law 771 = .ok (.aload_n 0, 1) := by decide +kernel
theorem dL_law_772 : decode cL_law 772 = .ok (.iload_n 3, 1) := by decide +kernel
theorem dL_law_773 : decode cL_law 773 = .ok (.iconst 1, 1) := by decide +kernel
theorem dL_law_774 : decode cL_law 774 = .ok (.iadd, 1) := by decide +kernel
theorem dL_law_775 : decode cL_law 775 = .ok (.iaload, 1) := by decide +kernel
theorem dL_law_776 : decode cL_law 776 = .ok (.aload_n 0, 1) := by decide +kernel
theorem dL_law_777 : decode cL_law 777 = .ok (.iload_n 3, 1) := by decide +kernel
theorem dL_law_778 : decode cL_law 778 = .ok (.iconst 2, 1) := by decide +kernel
theorem dL_law_779 : decode cL_law 779 = .ok (.iadd, 1) := by decide +kernel
theorem dL_law_780 : decode cL_law 780 = .ok (.iaload, 1) := by decide +kernel
theorem dL_law_781 : decode cL_law 781 = .ok (.invokevirtual 119, 3) := by decide +kernel
theorem dL_law_784 : decode cL_law 784 = .ok (.if_icmp .eq 68, 3) := by decide +kernel
theorem dL_law_787 : decode cL_law 787 = .ok (.iconst 0, 1) := by decide +kernel
theorem dL_law_788 : decode cL_law 788 = .ok (.ireturn, 1) := by decide +kernel
theorem dL_law_789 : decode cL_law 789 = .ok (.aload_n 1, 1) := by decide +kernel
theorem dL_law_790 : decode cL_law 790 = .ok (.invokevirtual 120, 3) := by decide +kernel
theorem dL_law_793 : decode cL_law 793 = .ok (.aload_n 2, 1) := by decide +kernel
theorem dL_law_794 : decode cL_law 794 = .ok (.invokevirtual 123, 3) := by decide +kernel
theorem dL_law_797 : decode cL_law 797 = .ok (.if_icmp .eq 55, 3) := by decide +kernel
theorem dL_law_800 : decode cL_law 800 = .ok (.iconst 0, 1) := by decide +kernel
theorem dL_law_801 : decode cL_law 801 = .ok (.ireturn, 1) := by decide +kernel
theorem dL_law_802 : decode cL_law 802 = .ok (.aload_n 1, 1) := by decide +kernel
theorem dL_law_803 : decode cL_law 803 = .ok (.invokevirtual 124, 3) := by decide +kernel
theorem dL_law_806 : decode cL_law 806 = .ok (.aload_n 2, 1) := by decide +kernel
theorem dL_law_807 : decode cL_law 807 = .ok (.invokevirtual 127, 3) := by decide +kernel
theorem dL_law_810 : decode cL_law 810 = .ok (.if_icmp .eq 42, 3) := by decide +kernel
theorem dL_law_813 : decode cL_law 813 = .ok (.iconst 0, 1) := by decide +kernel
theorem dL_law_814 : decode cL_law 814 = .ok (.ireturn, 1) := by decide +kernel
theorem dL_law_815 : decode cL_law 815 = .ok (.aload_n 1, 1) := by decide +kernel
theorem dL_law_816 : decode cL_law 816 = .ok (.aload_n 0, 1) := by decide +kernel
theorem dL_law_817 : decode cL_law 817 = .ok (.iload_n 3, 1) := by decide +kernel
theorem dL_law_818 : decode cL_law 818 = .ok (.iconst 1, 1) := by decide +kernel
theorem dL_law_819 : decode cL_law 819 = .ok (.iadd, 1) := by decide +kernel
theorem dL_law_820 : decode cL_law 820 = .ok (.iaload, 1) := by decide +kernel
theorem dL_law_821 : decode cL_law 821 = .ok (.invokevirtual 128, 3) := by decide +kernel
theorem dL_law_824 : decode cL_law 824 = .ok (.aload_n 2, 1) := by decide +kernel
theorem dL_law_825 : decode cL_law 825 = .ok (.aload_n 0, 1) := by decide +kernel
theorem dL_law_826 : decode cL_law 826 = .ok (.iload_n 3, 1) := by decide +kernel
theorem dL_law_827 : decode cL_law 827 = .ok (.iconst 1, 1) := by decide +kernel
theorem dL_law_828 : decode cL_law 828 = .ok (.iadd, 1) := by decide +kernel
theorem dL_law_829 : decode cL_law 829 = .ok (.iaload, 1) := by decide +kernel
theorem dL_law_830 : decode cL_law 830 = .ok (.invokevirtual 131, 3) := by decide +kernel
theorem dL_law_833 : decode cL_law 833 = .ok (.if_icmp .eq 19, 3) := by decide +kernel
theorem dL_law_836 : decode cL_law 836 = .ok (.iconst 0, 1) := by decide +kernel
theorem dL_law_837 : decode cL_law 837 = .ok (.ireturn, 1) := by decide +kernel
theorem dL_law_838 : decode cL_law 838 = .ok (.aload_n 1, 1) := by decide +kernel
theorem dL_law_839 : decode cL_law 839 = .ok (.invokevirtual 132, 3) := by decide +kernel
theorem dL_law_842 : decode cL_law 842 = .ok (.aload_n 2, 1) := by decide +kernel
theorem dL_law_843 : decode cL_law 843 = .ok (.invokevirtual 136, 3) := by decide +kernel
theorem dL_law_846 : decode cL_law 846 = .ok (.lcmp, 1) := by decide +kernel
theorem dL_law_847 : decode cL_law 847 = .ok (.ifCond .eq 5, 3) := by decide +kernel
theorem dL_law_850 : decode cL_law 850 = .ok (.iconst 0, 1) := by decide +kernel
theorem dL_law_851 : decode cL_law 851 = .ok (.ireturn, 1) := by decide +kernel
theorem dL_law_852 : decode cL_law 852 = .ok (.iinc 3 4, 3) := by decide +kernel
theorem dL_law_855 : decode cL_law 855 = .ok (.goto (-837), 3) := by decide +kernel
theorem dL_law_858 : decode cL_law 858 = .ok (.iconst 1, 1) := by decide +kernel
theorem dL_law_859 : decode cL_law 859 = .ok (.ireturn, 1) := by decide +kernel
