theorem dX10_init_0 : decode cX10_init 0 = .ok (.aload_n 0, 1) := by decide +kernel
theorem dX10_init_1 : decode cX10_init 1 = .ok (.invokespecial 1, 3) := by decide +kernel
theorem dX10_init_4 : decode cX10_init 4 = .ok (.aload_n 0, 1) := by decide +kernel
theorem dX10_init_5 : decode cX10_init 5 = .ok (.new 7, 3) := by decide +kernel
theorem dX10_init_8 : decode cX10_init 8 = .ok (.dup, 1) := by decide +kernel
theorem dX10_init_9 : decode cX10_init 9 = .ok (.invokespecial 9, 3) := by decide +kernel
theorem dX10_init_12 : decode cX10_init 12 = .ok (.putfield 10, 3) := by decide +kernel
theorem dX10_init_15 : decode cX10_init 15 = .ok (.aload_n 0, 1) := by decide +kernel
theorem dX10_init_16 : decode cX10_init 16 = .ok (.new 16, 3) := by decide +kernel
theorem dX10_init_19 : decode cX10_init 19 = .ok (.dup, 1) := by decide +kernel
theorem dX10_init_20 : decode cX10_init 20 = .ok (.invokespecial 18, 3) := by decide +kernel
theorem dX10_init_23 : decode cX10_init 23 = .ok (.putfield 19, 3) := by decide +kernel
theorem dX10_init_26 : decode cX10_init 26 = .ok (.aload_n 0, 1) := by decide +kernel
theorem dX10_init_27 : decode cX10_init 27 = .ok (.new 16, 3) := by decide +kernel
theorem dX10_init_30 : decode cX10_init 30 = .ok (.dup, 1) := by decide +kernel
theorem dX10_init_31 : decode cX10_init 31 = .ok (.invokespecial 18, 3) := by decide +kernel
theorem dX10_init_34 : decode cX10_init 34 = .ok (.putfield 23, 3) := by decide +kernel
theorem dX10_init_37 : decode cX10_init 37 = .ok (.aload_n 0, 1) := by decide +kernel
theorem dX10_init_38 : decode cX10_init 38 = .ok (.new 26, 3) := by decide +kernel
theorem dX10_init_41 : decode cX10_init 41 = .ok (.dup, 1) := by decide +kernel
theorem dX10_init_42 : decode cX10_init 42 = .ok (.invokespecial 28, 3) := by decide +kernel
theorem dX10_init_45 : decode cX10_init 45 = .ok (.putfield 29, 3) := by decide +kernel
theorem dX10_init_48 : decode cX10_init 48 = .ok (.aload_n 0, 1) := by decide +kernel
theorem dX10_init_49 : decode cX10_init 49 = .ok (.new 26, 3) := by decide +kernel
theorem dX10_init_52 : decode cX10_init 52 = .ok (.dup, 1) := by decide +kernel
theorem dX10_init_53 : decode cX10_init 53 = .ok (.invokespecial 28, 3) := by decide +kernel
theorem dX10_init_56 : decode cX10_init 56 = .ok (.putfield 33, 3) := by decide +kernel
theorem dX10_init_59 : decode cX10_init 59 = .ok (.aload_n 0, 1) := by decide +kernel
theorem dX10_init_60 : decode cX10_init 60 = .ok (.new 36, 3) := by decide +kernel
theorem dX10_init_63 : decode cX10_init 63 = .ok (.dup, 1) := by decide +kernel
theorem dX10_init_64 : decode cX10_init 64 = .ok (.invokespecial 38, 3) := by decide +kernel
theorem dX10_init_67 : decode cX10_init 67 = .ok (.putfield 39, 3) := by decide +kernel
theorem dX10_init_70 : decode cX10_init 70 = .ok (.aload_n 0, 1) := by decide +kernel
theorem dX10_init_71 : decode cX10_init 71 = .ok (.new 36, 3) := by decide +kernel
theorem dX10_init_74 : decode cX10_init 74 = .ok (.dup, 1) := by decide +kernel
theorem dX10_init_75 : decode cX10_init 75 = .ok (.invokespecial 38, 3) := by decide +kernel
theorem dX10_init_78 : decode cX10_init 78 = .ok (.putfield 43, 3) := by decide +kernel
theorem dX10_init_81 : decode cX10_init 81 = .ok (.aload_n 0, 1) := by decide +kernel
theorem dX10_init_82 : decode cX10_init 82 = .ok (.new 46, 3) := by decide +kernel
theorem dX10_init_85 : decode cX10_init 85 = .ok (.dup, 1) := by decide +kernel
theorem dX10_init_86 : decode cX10_init 86 = .ok (.invokespecial 48, 3) := by decide +kernel
theorem dX10_init_89 : decode cX10_init 89 = .ok (.putfield 49, 3) := by decide +kernel
theorem dX10_init_92 : decode cX10_init 92 = .ok (.aload_n 0, 1) := by decide +kernel
theorem dX10_init_93 : decode cX10_init 93 = .ok (.new 53, 3) := by decide +kernel
theorem dX10_init_96 : decode cX10_init 96 = .ok (.dup, 1) := by decide +kernel
theorem dX10_init_97 : decode cX10_init 97 = .ok (.invokespecial 55, 3) := by decide +kernel
theorem dX10_init_100 : decode cX10_init 100 = .ok (.putfield 56, 3) := by decide +kernel
theorem dX10_init_103 : decode cX10_init 103 = .ok (.aload_n 0, 1) := by decide +kernel
theorem dX10_init_104 : decode cX10_init 104 = .ok (.new 60, 3) := by decide +kernel
theorem dX10_init_107 : decode cX10_init 107 = .ok (.dup, 1) := by decide +kernel
theorem dX10_init_108 : decode cX10_init 108 = .ok (.invokespecial 62, 3) := by decide +kernel
theorem dX10_init_111 : decode cX10_init 111 = .ok (.putfield 63, 3) := by decide +kernel
theorem dX10_init_114 : decode cX10_init 114 = .ok (.aload_n 0, 1) := by decide +kernel
theorem dX10_init_115 : decode cX10_init 115 = .ok (.new 67, 3) := by decide +kernel
theorem dX10_init_118 : decode cX10_init 118 = .ok (.dup, 1) := by decide +kernel
theorem dX10_init_119 : decode cX10_init 119 = .ok (.invokespecial 69, 3) := by decide +kernel
theorem dX10_init_122 : decode cX10_init 122 = .ok (.putfield 70, 3) := by decide +kernel
theorem dX10_init_125 : decode cX10_init 125 = .ok (.aload_n 0, 1) := by decide +kernel
theorem dX10_init_126 : decode cX10_init 126 = .ok (.new 74, 3) := by decide +kernel
theorem dX10_init_129 : decode cX10_init 129 = .ok (.dup, 1) := by decide +kernel
theorem dX10_init_130 : decode cX10_init 130 = .ok (.aload_n 0, 1) := by decide +kernel
theorem dX10_init_131 : decode cX10_init 131 = .ok (.getfield 63, 3) := by decide +kernel
theorem dX10_init_134 : decode cX10_init 134 = .ok (.getfield 76, 3) := by decide +kernel
theorem dX10_init_137 : decode cX10_init 137 = .ok (.aload_n 0, 1) := by decide +kernel
theorem dX10_init_138 : decode cX10_init 138 = .ok (.getfield 70, 3) := by decide +kernel
theorem dX10_init_141 : decode cX10_init 141 = .ok (.invokespecial 80, 3) := by decide +kernel
theorem dX10_init_144 : decode cX10_init 144 = .ok (.putfield 83, 3) := by decide +kernel
theorem dX10_init_147 : decode cX10_init 147 = .ok (.aload_n 0, 1) := by decide +kernel
theorem dX10_init_148 : decode cX10_init 148 = .ok (.iconst 2, 1) := by decide +kernel
theorem dX10_init_149 : decode cX10_init 149 = .ok (.anewarray 60, 3) := by decide +kernel
theorem dX10_init_152 : decode cX10_init 152 = .ok (.putfield 87, 3) := by decide +kernel
theorem dX10_init_155 : decode cX10_init 155 = .ok (.aload_n 0, 1) := by decide +kernel
theorem dX10_init_156 : decode cX10_init 156 = .ok (.iconst 3, 1) := by decide +kernel
theorem dX10_init_157 : decode cX10_init 157 = .ok (.newarray .int, 2) := by decide +kernel
theorem dX10_init_159 : decode cX10_init 159 = .ok (.putfield 91, 3) := by decide +kernel
theorem dX10_init_162 : decode cX10_init 162 = .ok (.return_, 1) := by decide +kernel
theorem dX10_feed_0 : decode cX10_feed 0 = .ok (.aload_n 0, 1) := by decide +kernel
theorem dX10_feed_1 : decode cX10_feed 1 = .ok (.getfield 10, 3) := by decide +kernel
theorem dX10_feed_4 : decode cX10_feed 4 = .ok (.invokevirtual 95, 3) := by decide +kernel
theorem dX10_feed_7 : decode cX10_feed 7 = .ok (.ifCond .ne 5, 3) := by decide +kernel
theorem dX10_feed_10 : decode cX10_feed 10 = .ok (.iconst (-1), 1) := by decide +kernel
theorem dX10_feed_11 : decode cX10_feed 11 = .ok (.ireturn, 1) := by decide +kernel
theorem dX10_feed_12 : decode cX10_feed 12 = .ok (.aload_n 0, 1) := by decide +kernel
theorem dX10_feed_13 : decode cX10_feed 13 = .ok (.getfield 10, 3) := by decide +kernel
theorem dX10_feed_16 : decode cX10_feed 16 = .ok (.iload_n 1, 1) := by decide +kernel
theorem dX10_feed_17 : decode cX10_feed 17 = .ok (.invokevirtual 99, 3) := by decide +kernel
theorem dX10_feed_20 : decode cX10_feed 20 = .ok (.aload_n 0, 1) := by decide +kernel
theorem dX10_feed_21 : decode cX10_feed 21 = .ok (.getfield 10, 3) := by decide +kernel
theorem dX10_feed_24 : decode cX10_feed 24 = .ok (.iload_n 2, 1) := by decide +kernel
theorem dX10_feed_25 : decode cX10_feed 25 = .ok (.invokevirtual 99, 3) := by decide +kernel
theorem dX10_feed_28 : decode cX10_feed 28 = .ok (.aload_n 0, 1) := by decide +kernel
theorem dX10_feed_29 : decode cX10_feed 29 = .ok (.getfield 10, 3) := by decide +kernel
theorem dX10_feed_32 : decode cX10_feed 32 = .ok (.iload_n 3, 1) := by decide +kernel
theorem dX10_feed_33 : decode cX10_feed 33 = .ok (.invokevirtual 99, 3) := by decide +kernel
theorem dX10_feed_36 : decode cX10_feed 36 = .ok (.aload_n 0, 1) := by decide +kernel
theorem dX10_feed_37 : decode cX10_feed 37 = .ok (.getfield 10, 3) := by decide +kernel
theorem dX10_feed_40 : decode cX10_feed 40 = .ok (.iload 4, 2) := by decide +kernel
theorem dX10_feed_42 : decode cX10_feed 42 = .ok (.invokevirtual 99, 3) := by decide +kernel
theorem dX10_feed_45 : decode cX10_feed 45 = .ok (.aload_n 0, 1) := by decide +kernel
theorem dX10_feed_46 : decode cX10_feed 46 = .ok (.getfield 10, 3) := by decide +kernel
theorem dX10_feed_49 : decode cX10_feed 49 = .ok (.iload 5, 2) := by decide +kernel
theorem dX10_feed_51 : decode cX10_feed 51 = .ok (.invokevirtual 99, 3) := by decide +kernel
theorem dX10_feed_54 : decode cX10_feed 54 = .ok (.aload_n 0, 1) := by decide +kernel
theorem dX10_feed_55 : decode cX10_feed 55 = .ok (.getfield 10, 3) := by decide +kernel
theorem dX10_feed_58 : decode cX10_feed 58 = .ok (.getfield 103, 3) := by decide +kernel
theorem dX10_feed_61 : decode cX10_feed 61 = .ok (.ireturn, 1) := by decide +kernel
theorem dX10_street_0 : decode cX10_street 0 = .ok (.aload_n 0, 1) := by decide +kernel
theorem dX10_street_1 : decode cX10_street 1 = .ok (.iload_n 1, 1) := by decide +kernel
theorem dX10_street_2 : decode cX10_street 2 = .ok (.sipush 600, 3) := by decide +kernel
theorem dX10_street_5 : decode cX10_street 5 = .ok (.invokevirtual 107, 3) := by decide +kernel
theorem dX10_street_8 : decode cX10_street 8 = .ok (.aload_n 0, 1) := by decide +kernel
theorem dX10_street_9 : decode cX10_street 9 = .ok (.getfield 23, 3) := by decide +kernel
theorem dX10_street_12 : decode cX10_street 12 = .ok (.aload_n 0, 1) := by decide +kernel
theorem dX10_street_13 : decode cX10_street 13 = .ok (.getfield 10, 3) := by decide +kernel
theorem dX10_street_16 : decode cX10_street 16 = .ok (.invokevirtual 111, 3) := by decide +kernel
theorem dX10_street_19 : decode cX10_street 19 = .ok (.istore_n 2, 1) := by decide +kernel
theorem dX10_street_20 : decode cX10_street 20 = .ok (.aload_n 0, 1) := by decide +kernel
theorem dX10_street_21 : decode cX10_street 21 = .ok (.getfield 10, 3) := by decide +kernel
theorem dX10_street_24 : decode cX10_street 24 = .ok (.iconst 0, 1) := by decide +kernel
theorem dX10_street_25 : decode cX10_street 25 = .ok (.putfield 103, 3) := by decide +kernel
theorem dX10_street_28 : decode cX10_street 28 = .ok (.iload_n 2, 1) := by decide +kernel
theorem dX10_street_29 : decode cX10_street 29 = .ok (.ifCond .ne 14, 3) := by decide +kernel
theorem dX10_street_32 : decode cX10_street 32 = .ok (.aload_n 0, 1) := by decide +kernel
theorem dX10_street_33 : decode cX10_street 33 = .ok (.getfield 10, 3) := by decide +kernel
theorem dX10_street_36 : decode cX10_street 36 = .ok (.getfield 115, 3) := by decide +kernel
theorem dX10_street_39 : decode cX10_street 39 = .ok (.bipush 10, 2) := by decide +kernel
theorem dX10_street_41 : decode cX10_street 41 = .ok (.isub, 1) := by decide +kernel
theorem dX10_street_42 : decode cX10_street 42 = .ok (.ireturn, 1) := by decide +kernel
theorem dX10_street_43 : decode cX10_street 43 = .ok (.aload_n 0, 1) := by decide +kernel
theorem dX10_street_44 : decode cX10_street 44 = .ok (.getfield 19, 3) := by decide +kernel
theorem dX10_street_47 : decode cX10_street 47 = .ok (.astore_n 3, 1) := by decide +kernel
theorem dX10_street_48 : decode cX10_street 48 = .ok (.aload_n 0, 1) := by decide +kernel
theorem dX10_street_49 : decode cX10_street 49 = .ok (.aload_n 0, 1) := by decide +kernel
theorem dX10_street_50 : decode cX10_street 50 = .ok (.getfield 23, 3) := by decide +kernel
theorem dX10_street_53 : decode cX10_street 53 = .ok (.putfield 19, 3) := by decide +kernel
theorem dX10_street_56 : decode cX10_street 56 = .ok (.aload_n 0, 1) := by decide +kernel
theorem dX10_street_57 : decode cX10_street 57 = .ok (.aload_n 3, 1) := by decide +kernel
theorem dX10_street_58 : decode cX10_street 58 = .ok (.putfield 23, 3) := by decide +kernel
theorem dX10_street_61 : decode cX10_street 61 = .ok (.aload_n 0, 1) := by decide +kernel
theorem dX10_street_62 : decode cX10_street 62 = .ok (.getfield 29, 3) := by decide +kernel
theorem dX10_street_65 : decode cX10_street 65 = .ok (.invokevirtual 118, 3) := by decide +kernel
theorem dX10_street_68 : decode cX10_street 68 = .ok (.aload_n 0, 1) := by decide +kernel
theorem dX10_street_69 : decode cX10_street 69 = .ok (.getfield 39, 3) := by decide +kernel
theorem dX10_street_72 : decode cX10_street 72 = .ok (.invokevirtual 121, 3) := by decide +kernel
theorem dX10_street_75 : decode cX10_street 75 = .ok (.aload_n 0, 1) := by decide +kernel
theorem dX10_street_76 : decode cX10_street 76 = .ok (.getfield 63, 3) := by decide +kernel
theorem dX10_street_79 : decode cX10_street 79 = .ok (.invokevirtual 122, 3) := by decide +kernel
theorem dX10_street_82 : decode cX10_street 82 = .ok (.aload_n 0, 1) := by decide +kernel
theorem dX10_street_83 : decode cX10_street 83 = .ok (.iconst 0, 1) := by decide +kernel
theorem dX10_street_84 : decode cX10_street 84 = .ok (.putfield 123, 3) := by decide +kernel
theorem dX10_street_87 : decode cX10_street 87 = .ok (.aload_n 0, 1) := by decide +kernel
theorem dX10_street_88 : decode cX10_street 88 = .ok (.iconst 0, 1) := by decide +kernel
theorem dX10_street_89 : decode cX10_street 89 = .ok (.putfield 126, 3) := by decide +kernel
theorem dX10_street_92 : decode cX10_street 92 = .ok (.aload_n 0, 1) := by decide +kernel
theorem dX10_street_93 : decode cX10_street 93 = .ok (.getfield 19, 3) := by decide +kernel
theorem dX10_street_96 : decode cX10_street 96 = .ok (.getfield 129, 3) := by decide +kernel
theorem dX10_street_99 : decode cX10_street 99 = .ok (.ireturn, 1) := by decide +kernel
theorem dX10_law_0 : decode cX10_law 0 = .ok (.aload_n 0, 1) := by decide +kernel
theorem dX10_law_1 : decode cX10_law 1 = .ok (.iload_n 1, 1) := by decide +kernel
theorem dX10_law_2 : decode cX10_law 2 = .ok (.sipush 150, 3) := by decide +kernel
theorem dX10_law_5 : decode cX10_law 5 = .ok (.invokevirtual 107, 3) := by decide +kernel
theorem dX10_law_8 : decode cX10_law 8 = .ok (.aload_n 0, 1) := by decide +kernel
theorem dX10_law_9 : decode cX10_law 9 = .ok (.getfield 33, 3) := by decide +kernel
theorem dX10_law_12 : decode cX10_law 12 = .ok (.aload_n 0, 1) := by decide +kernel
theorem dX10_law_13 : decode cX10_law 13 = .ok (.getfield 10, 3) := by decide +kernel
theorem dX10_law_16 : decode cX10_law 16 = .ok (.invokevirtual 132, 3) := by decide +kernel
theorem dX10_law_19 : decode cX10_law 19 = .ok (.istore_n 2, 1) := by decide +kernel
theorem dX10_law_20 : decode cX10_law 20 = .ok (.aload_n 0, 1) := by decide +kernel
theorem dX10_law_21 : decode cX10_law 21 = .ok (.getfield 10, 3) := by decide +kernel
theorem dX10_law_24 : decode cX10_law 24 = .ok (.iconst 0, 1) := by decide +kernel
theorem dX10_law_25 : decode cX10_law 25 = .ok (.putfield 103, 3) := by decide +kernel
theorem dX10_law_28 : decode cX10_law 28 = .ok (.iload_n 2, 1) := by decide +kernel
theorem dX10_law_29 : decode cX10_law 29 = .ok (.ifCond .ne 14, 3) := by decide +kernel
theorem dX10_law_32 : decode cX10_law 32 = .ok (.aload_n 0, 1) := by decide +kernel
theorem dX10_law_33 : decode cX10_law 33 = .ok (.getfield 10, 3) := by decide +kernel
theorem dX10_law_36 : decode cX10_law 36 = .ok (.getfield 115, 3) := by decide +kernel
theorem dX10_law_39 : decode cX10_law 39 = .ok (.bipush 10, 2) := by decide +kernel
theorem dX10_law_41 : decode cX10_law 41 = .ok (.isub, 1) := by decide +kernel
theorem dX10_law_42 : decode cX10_law 42 = .ok (.ireturn, 1) := by decide +kernel
theorem dX10_law_43 : decode cX10_law 43 = .ok (.aload_n 0, 1) := by decide +kernel
theorem dX10_law_44 : decode cX10_law 44 = .ok (.getfield 29, 3) := by decide +kernel
theorem dX10_law_47 : decode cX10_law 47 = .ok (.astore_n 3, 1) := by decide +kernel
theorem dX10_law_48 : decode cX10_law 48 = .ok (.aload_n 0, 1) := by decide +kernel
theorem dX10_law_49 : decode cX10_law 49 = .ok (.aload_n 0, 1) := by decide +kernel
theorem dX10_law_50 : decode cX10_law 50 = .ok (.getfield 33, 3) := by decide +kernel
theorem dX10_law_53 : decode cX10_law 53 = .ok (.putfield 29, 3) := by decide +kernel
theorem dX10_law_56 : decode cX10_law 56 = .ok (.aload_n 0, 1) := by decide +kernel
theorem dX10_law_57 : decode cX10_law 57 = .ok (.aload_n 3, 1) := by decide +kernel
theorem dX10_law_58 : decode cX10_law 58 = .ok (.putfield 33, 3) := by decide +kernel
theorem dX10_law_61 : decode cX10_law 61 = .ok (.iconst 1, 1) := by decide +kernel
theorem dX10_law_62 : decode cX10_law 62 = .ok (.ireturn, 1) := by decide +kernel
theorem dX10_work_0 : decode cX10_work 0 = .ok (.aload_n 0, 1) := by decide +kernel
theorem dX10_work_1 : decode cX10_work 1 = .ok (.iload_n 1, 1) := by decide +kernel
theorem dX10_work_2 : decode cX10_work 2 = .ok (.sipush 200, 3) := by decide +kernel
theorem dX10_work_5 : decode cX10_work 5 = .ok (.invokevirtual 107, 3) := by decide +kernel
theorem dX10_work_8 : decode cX10_work 8 = .ok (.aload_n 0, 1) := by decide +kernel
theorem dX10_work_9 : decode cX10_work 9 = .ok (.getfield 63, 3) := by decide +kernel
theorem dX10_work_12 : decode cX10_work 12 = .ok (.getfield 133, 3) := by decide +kernel
theorem dX10_work_15 : decode cX10_work 15 = .ok (.bipush 8, 2) := by decide +kernel
theorem dX10_work_17 : decode cX10_work 17 = .ok (.if_icmp .lt 14, 3) := by decide +kernel
theorem dX10_work_20 : decode cX10_work 20 = .ok (.aload_n 0, 1) := by decide +kernel
theorem dX10_work_21 : decode cX10_work 21 = .ok (.getfield 10, 3) := by decide +kernel
theorem dX10_work_24 : decode cX10_work 24 = .ok (.iconst 0, 1) := by decide +kernel
theorem dX10_work_25 : decode cX10_work 25 = .ok (.putfield 103, 3) := by decide +kernel
theorem dX10_work_28 : decode cX10_work 28 = .ok (.bipush (-20), 2) := by decide +kernel
theorem dX10_work_30 : decode cX10_work 30 = .ok (.ireturn, 1) := by decide +kernel
theorem dX10_work_31 : decode cX10_work 31 = .ok (.aload_n 0, 1) := by decide +kernel
theorem dX10_work_32 : decode cX10_work 32 = .ok (.getfield 83, 3) := by decide +kernel
theorem dX10_work_35 : decode cX10_work 35 = .ok (.aload_n 0, 1) := by decide +kernel
theorem dX10_work_36 : decode cX10_work 36 = .ok (.getfield 10, 3) := by decide +kernel
theorem dX10_work_39 : decode cX10_work 39 = .ok (.aload_n 0, 1) := by decide +kernel
theorem dX10_work_40 : decode cX10_work 40 = .ok (.getfield 19, 3) := by decide +kernel
theorem dX10_work_43 : decode cX10_work 43 = .ok (.invokevirtual 136, 3) := by decide +kernel
theorem dX10_work_46 : decode cX10_work 46 = .ok (.istore_n 2, 1) := by decide +kernel
theorem dX10_work_47 : decode cX10_work 47 = .ok (.aload_n 0, 1) := by decide +kernel
theorem dX10_work_48 : decode cX10_work 48 = .ok (.getfield 10, 3) := by decide +kernel
theorem dX10_work_51 : decode cX10_work 51 = .ok (.iconst 0, 1) := by decide +kernel
theorem dX10_work_52 : decode cX10_work 52 = .ok (.putfield 103, 3) := by decide +kernel
theorem dX10_work_55 : decode cX10_work 55 = .ok (.iload_n 2, 1) := by decide +kernel
theorem dX10_work_56 : decode cX10_work 56 = .ok (.ifCond .ne 14, 3) := by decide +kernel
theorem dX10_work_59 : decode cX10_work 59 = .ok (.aload_n 0, 1) := by decide +kernel
theorem dX10_work_60 : decode cX10_work 60 = .ok (.getfield 10, 3) := by decide +kernel
theorem dX10_work_63 : decode cX10_work 63 = .ok (.getfield 115, 3) := by decide +kernel
theorem dX10_work_66 : decode cX10_work 66 = .ok (.bipush 10, 2) := by decide +kernel
theorem dX10_work_68 : decode cX10_work 68 = .ok (.isub, 1) := by decide +kernel
theorem dX10_work_69 : decode cX10_work 69 = .ok (.ireturn, 1) := by decide +kernel
theorem dX10_work_70 : decode cX10_work 70 = .ok (.aload_n 0, 1) := by decide +kernel
theorem dX10_work_71 : decode cX10_work 71 = .ok (.getfield 63, 3) := by decide +kernel
theorem dX10_work_74 : decode cX10_work 74 = .ok (.invokevirtual 139, 3) := by decide +kernel
theorem dX10_work_77 : decode cX10_work 77 = .ok (.aload_n 0, 1) := by decide +kernel
theorem dX10_work_78 : decode cX10_work 78 = .ok (.getfield 83, 3) := by decide +kernel
theorem dX10_work_81 : decode cX10_work 81 = .ok (.aload_n 0, 1) := by decide +kernel
theorem dX10_work_82 : decode cX10_work 82 = .ok (.getfield 19, 3) := by decide +kernel
theorem dX10_work_85 : decode cX10_work 85 = .ok (.aload_n 0, 1) := by decide +kernel
theorem dX10_work_86 : decode cX10_work 86 = .ok (.getfield 29, 3) := by decide +kernel
theorem dX10_work_89 : decode cX10_work 89 = .ok (.invokevirtual 142, 3) := by decide +kernel
theorem dX10_work_92 : decode cX10_work 92 = .ok (.aload_n 0, 1) := by decide +kernel
theorem dX10_work_93 : decode cX10_work 93 = .ok (.aload_n 0, 1) := by decide +kernel
theorem dX10_work_94 : decode cX10_work 94 = .ok (.getfield 83, 3) := by decide +kernel
theorem dX10_work_97 : decode cX10_work 97 = .ok (.getfield 146, 3) := by decide +kernel
theorem dX10_work_100 : decode cX10_work 100 = .ok (.putfield 126, 3) := by decide +kernel
theorem dX10_work_103 : decode cX10_work 103 = .ok (.aload_n 0, 1) := by decide +kernel
theorem dX10_work_104 : decode cX10_work 104 = .ok (.getfield 83, 3) := by decide +kernel
theorem dX10_work_107 : decode cX10_work 107 = .ok (.getfield 149, 3) := by decide +kernel
theorem dX10_work_110 : decode cX10_work 110 = .ok (.ireturn, 1) := by decide +kernel
theorem dX10_book_0 : decode cX10_book 0 = .ok (.aload_n 0, 1) := by decide +kernel
theorem dX10_book_1 : decode cX10_book 1 = .ok (.iload_n 1, 1) := by decide +kernel
theorem dX10_book_2 : decode cX10_book 2 = .ok (.bipush 100, 2) := by decide +kernel
theorem dX10_book_4 : decode cX10_book 4 = .ok (.invokevirtual 107, 3) := by decide +kernel
theorem dX10_book_7 : decode cX10_book 7 = .ok (.aload_n 0, 1) := by decide +kernel
theorem dX10_book_8 : decode cX10_book 8 = .ok (.getfield 43, 3) := by decide +kernel
theorem dX10_book_11 : decode cX10_book 11 = .ok (.aload_n 0, 1) := by decide +kernel
theorem dX10_book_12 : decode cX10_book 12 = .ok (.getfield 10, 3) := by decide +kernel
theorem dX10_book_15 : decode cX10_book 15 = .ok (.invokevirtual 152, 3) := by decide +kernel
theorem dX10_book_18 : decode cX10_book 18 = .ok (.istore_n 2, 1) := by decide +kernel
theorem dX10_book_19 : decode cX10_book 19 = .ok (.aload_n 0, 1) := by decide +kernel
theorem dX10_book_20 : decode cX10_book 20 = .ok (.getfield 10, 3) := by decide +kernel
theorem dX10_book_23 : decode cX10_book 23 = .ok (.iconst 0, 1) := by decide +kernel
theorem dX10_book_24 : decode cX10_book 24 = .ok (.putfield 103, 3) := by decide +kernel
theorem dX10_book_27 : decode cX10_book 27 = .ok (.iload_n 2, 1) := by decide +kernel
theorem dX10_book_28 : decode cX10_book 28 = .ok (.ifCond .ne 14, 3) := by decide +kernel
theorem dX10_book_31 : decode cX10_book 31 = .ok (.aload_n 0, 1) := by decide +kernel
theorem dX10_book_32 : decode cX10_book 32 = .ok (.getfield 10, 3) := by decide +kernel
theorem dX10_book_35 : decode cX10_book 35 = .ok (.getfield 115, 3) := by decide +kernel
theorem dX10_book_38 : decode cX10_book 38 = .ok (.bipush 10, 2) := by decide +kernel
theorem dX10_book_40 : decode cX10_book 40 = .ok (.isub, 1) := by decide +kernel
theorem dX10_book_41 : decode cX10_book 41 = .ok (.ireturn, 1) := by decide +kernel
theorem dX10_book_42 : decode cX10_book 42 = .ok (.aload_n 0, 1) := by decide +kernel
theorem dX10_book_43 : decode cX10_book 43 = .ok (.getfield 39, 3) := by decide +kernel
theorem dX10_book_46 : decode cX10_book 46 = .ok (.astore_n 3, 1) := by decide +kernel
theorem dX10_book_47 : decode cX10_book 47 = .ok (.aload_n 0, 1) := by decide +kernel
theorem dX10_book_48 : decode cX10_book 48 = .ok (.aload_n 0, 1) := by decide +kernel
theorem dX10_book_49 : decode cX10_book 49 = .ok (.getfield 43, 3) := by decide +kernel
theorem dX10_book_52 : decode cX10_book 52 = .ok (.putfield 39, 3) := by decide +kernel
theorem dX10_book_55 : decode cX10_book 55 = .ok (.aload_n 0, 1) := by decide +kernel
theorem dX10_book_56 : decode cX10_book 56 = .ok (.aload_n 3, 1) := by decide +kernel
theorem dX10_book_57 : decode cX10_book 57 = .ok (.putfield 43, 3) := by decide +kernel
theorem dX10_book_60 : decode cX10_book 60 = .ok (.aload_n 0, 1) := by decide +kernel
theorem dX10_book_61 : decode cX10_book 61 = .ok (.getfield 39, 3) := by decide +kernel
theorem dX10_book_64 : decode cX10_book 64 = .ok (.getfield 153, 3) := by decide +kernel
theorem dX10_book_67 : decode cX10_book 67 = .ok (.ireturn, 1) := by decide +kernel
theorem dX10_fault_0 : decode cX10_fault 0 = .ok (.aload_n 0, 1) := by decide +kernel
theorem dX10_fault_1 : decode cX10_fault 1 = .ok (.getfield 10, 3) := by decide +kernel
theorem dX10_fault_4 : decode cX10_fault 4 = .ok (.getfield 156, 3) := by decide +kernel
theorem dX10_fault_7 : decode cX10_fault 7 = .ok (.ireturn, 1) := by decide +kernel
theorem dX10_undo_0 : decode cX10_undo 0 = .ok (.aload_n 0, 1) := by decide +kernel
theorem dX10_undo_1 : decode cX10_undo 1 = .ok (.getfield 63, 3) := by decide +kernel
theorem dX10_undo_4 : decode cX10_undo 4 = .ok (.getfield 133, 3) := by decide +kernel
theorem dX10_undo_7 : decode cX10_undo 7 = .ok (.ifCond .ne 5, 3) := by decide +kernel
theorem dX10_undo_10 : decode cX10_undo 10 = .ok (.iconst (-1), 1) := by decide +kernel
theorem dX10_undo_11 : decode cX10_undo 11 = .ok (.ireturn, 1) := by decide +kernel
theorem dX10_undo_12 : decode cX10_undo 12 = .ok (.aload_n 0, 1) := by decide +kernel
theorem dX10_undo_13 : decode cX10_undo 13 = .ok (.getfield 63, 3) := by decide +kernel
theorem dX10_undo_16 : decode cX10_undo 16 = .ok (.invokevirtual 159, 3) := by decide +kernel
theorem dX10_undo_19 : decode cX10_undo 19 = .ok (.aload_n 0, 1) := by decide +kernel
theorem dX10_undo_20 : decode cX10_undo 20 = .ok (.iconst 0, 1) := by decide +kernel
theorem dX10_undo_21 : decode cX10_undo 21 = .ok (.putfield 126, 3) := by decide +kernel
theorem dX10_undo_24 : decode cX10_undo 24 = .ok (.aload_n 0, 1) := by decide +kernel
theorem dX10_undo_25 : decode cX10_undo 25 = .ok (.getfield 63, 3) := by decide +kernel
theorem dX10_undo_28 : decode cX10_undo 28 = .ok (.getfield 133, 3) := by decide +kernel
theorem dX10_undo_31 : decode cX10_undo 31 = .ok (.ireturn, 1) := by decide +kernel
theorem dX10_told_0 : decode cX10_told 0 = .ok (.aload_n 0, 1) := by decide +kernel
theorem dX10_told_1 : decode cX10_told 1 = .ok (.iload_n 1, 1) := by decide +kernel
theorem dX10_told_2 : decode cX10_told 2 = .ok (.bipush 8, 2) := by decide +kernel
theorem dX10_told_4 : decode cX10_told 4 = .ok (.invokevirtual 162, 3) := by decide +kernel
theorem dX10_told_7 : decode cX10_told 7 = .ok (.iload_n 1, 1) := by decide +kernel
theorem dX10_told_8 : decode cX10_told 8 = .ok (.tableswitch 124 0 7 #[48, 56, 64, 72, 83, 94, 105, 116], 48) := by decide +kernel
theorem dX10_told_56 : decode cX10_told 56 = .ok (.aload_n 0, 1) := by decide +kernel
theorem dX10_told_57 : decode cX10_told 57 = .ok (.getfield 19, 3) := by decide +kernel
theorem dX10_told_60 : decode cX10_told 60 = .ok (.getfield 129, 3) := by decide +kernel
theorem dX10_told_63 : decode cX10_told 63 = .ok (.ireturn, 1) := by decide +kernel
theorem dX10_told_64 : decode cX10_told 64 = .ok (.aload_n 0, 1) := by decide +kernel
theorem dX10_told_65 : decode cX10_told 65 = .ok (.getfield 19, 3) := by decide +kernel
theorem dX10_told_68 : decode cX10_told 68 = .ok (.getfield 165, 3) := by decide +kernel
theorem dX10_told_71 : decode cX10_told 71 = .ok (.ireturn, 1) := by decide +kernel
theorem dX10_told_72 : decode cX10_told 72 = .ok (.aload_n 0, 1) := by decide +kernel
theorem dX10_told_73 : decode cX10_told 73 = .ok (.getfield 19, 3) := by decide +kernel
theorem dX10_told_76 : decode cX10_told 76 = .ok (.getfield 168, 3) := by decide +kernel
theorem dX10_told_79 : decode cX10_told 79 = .ok (.ireturn, 1) := by decide +kernel
theorem dX10_told_80 : decode cX10_told 80 = .ok (.aload_n 0, 1) := by decide +kernel
theorem dX10_told_81 : decode cX10_told 81 = .ok (.getfield 63, 3) := by decide +kernel
theorem dX10_told_84 : decode cX10_told 84 = .ok (.getfield 76, 3) := by decide +kernel
theorem dX10_told_87 : decode cX10_told 87 = .ok (.getfield 171, 3) := by decide +kernel
theorem dX10_told_90 : decode cX10_told 90 = .ok (.ireturn, 1) := by decide +kernel
theorem dX10_told_91 : decode cX10_told 91 = .ok (.aload_n 0, 1) := by decide +kernel
theorem dX10_told_92 : decode cX10_told 92 = .ok (.getfield 63, 3) := by decide +kernel
theorem dX10_told_95 : decode cX10_told 95 = .ok (.getfield 76, 3) := by decide +kernel
theorem dX10_told_98 : decode cX10_told 98 = .ok (.invokevirtual 176, 3) := by decide +kernel
theorem dX10_told_101 : decode cX10_told 101 = .ok (.ireturn, 1) := by decide +kernel
theorem dX10_told_102 : decode cX10_told 102 = .ok (.aload_n 0, 1) := by decide +kernel
theorem dX10_told_103 : decode cX10_told 103 = .ok (.getfield 63, 3) := by decide +kernel
theorem dX10_told_106 : decode cX10_told 106 = .ok (.getfield 76, 3) := by decide +kernel
theorem dX10_told_109 : decode cX10_told 109 = .ok (.getfield 180, 3) := by decide +kernel
theorem dX10_told_112 : decode cX10_told 112 = .ok (.ireturn, 1) := by decide +kernel
theorem dX10_told_113 : decode cX10_told 113 = .ok (.aload_n 0, 1) := by decide +kernel
theorem dX10_told_114 : decode cX10_told 114 = .ok (.getfield 63, 3) := by decide +kernel
theorem dX10_told_117 : decode cX10_told 117 = .ok (.getfield 76, 3) := by decide +kernel
theorem dX10_told_120 : decode cX10_told 120 = .ok (.getfield 183, 3) := by decide +kernel
theorem dX10_told_123 : decode cX10_told 123 = .ok (.ireturn, 1) := by decide +kernel
theorem dX10_told_124 : decode cX10_told 124 = .ok (.aload_n 0, 1) := by decide +kernel
theorem dX10_told_125 : decode cX10_told 125 = .ok (.getfield 39, 3) := by decide +kernel
theorem dX10_told_128 : decode cX10_told 128 = .ok (.getfield 153, 3) := by decide +kernel
theorem dX10_told_131 : decode cX10_told 131 = .ok (.ireturn, 1) := by decide +kernel
theorem dX10_told_132 : decode cX10_told 132 = .ok (.aload_n 0, 1) := by decide +kernel
theorem dX10_told_133 : decode cX10_told 133 = .ok (.getfield 126, 3) := by decide +kernel
theorem dX10_told_136 : decode cX10_told 136 = .ok (.ireturn, 1) := by decide +kernel
theorem dX10_pane_0 : decode cX10_pane 0 = .ok (.aload_n 0, 1) := by decide +kernel
theorem dX10_pane_1 : decode cX10_pane 1 = .ok (.iload_n 1, 1) := by decide +kernel
theorem dX10_pane_2 : decode cX10_pane 2 = .ok (.invokevirtual 186, 3) := by decide +kernel
theorem dX10_pane_5 : decode cX10_pane 5 = .ok (.aload_n 0, 1) := by decide +kernel
theorem dX10_pane_6 : decode cX10_pane 6 = .ok (.iload_n 2, 1) := by decide +kernel
theorem dX10_pane_7 : decode cX10_pane 7 = .ok (.iconst 5, 1) := by decide +kernel
theorem dX10_pane_8 : decode cX10_pane 8 = .ok (.invokevirtual 162, 3) := by decide +kernel
theorem dX10_pane_11 : decode cX10_pane 11 = .ok (.iload_n 2, 1) := by decide +kernel
theorem dX10_pane_12 : decode cX10_pane 12 = .ok (.tableswitch 88 0 4 #[36, 46, 56, 66, 76], 36) := by decide +kernel
theorem dX10_pane_48 : decode cX10_pane 48 = .ok (.aload_n 0, 1) := by decide +kernel
theorem dX10_pane_49 : decode cX10_pane 49 = .ok (.getfield 19, 3) := by decide +kernel
theorem dX10_pane_52 : decode cX10_pane 52 = .ok (.getfield 189, 3) := by decide +kernel
theorem dX10_pane_55 : decode cX10_pane 55 = .ok (.iload_n 1, 1) := by decide +kernel
theorem dX10_pane_56 : decode cX10_pane 56 = .ok (.iaload, 1) := by decide +kernel
theorem dX10_pane_57 : decode cX10_pane 57 = .ok (.ireturn, 1) := by decide +kernel
theorem dX10_pane_58 : decode cX10_pane 58 = .ok (.aload_n 0, 1) := by decide +kernel
theorem dX10_pane_59 : decode cX10_pane 59 = .ok (.getfield 19, 3) := by decide +kernel
theorem dX10_pane_62 : decode cX10_pane 62 = .ok (.getfield 192, 3) := by decide +kernel
theorem dX10_pane_65 : decode cX10_pane 65 = .ok (.iload_n 1, 1) := by decide +kernel
theorem dX10_pane_66 : decode cX10_pane 66 = .ok (.iaload, 1) := by decide +kernel
theorem dX10_pane_67 : decode cX10_pane 67 = .ok (.ireturn, 1) := by decide +kernel
theorem dX10_pane_68 : decode cX10_pane 68 = .ok (.aload_n 0, 1) := by decide +kernel
theorem dX10_pane_69 : decode cX10_pane 69 = .ok (.getfield 19, 3) := by decide +kernel
theorem dX10_pane_72 : decode cX10_pane 72 = .ok (.getfield 195, 3) := by decide +kernel
theorem dX10_pane_75 : decode cX10_pane 75 = .ok (.iload_n 1, 1) := by decide +kernel
theorem dX10_pane_76 : decode cX10_pane 76 = .ok (.iaload, 1) := by decide +kernel
theorem dX10_pane_77 : decode cX10_pane 77 = .ok (.ireturn, 1) := by decide +kernel
theorem dX10_pane_78 : decode cX10_pane 78 = .ok (.aload_n 0, 1) := by decide +kernel
theorem dX10_pane_79 : decode cX10_pane 79 = .ok (.getfield 19, 3) := by decide +kernel
theorem dX10_pane_82 : decode cX10_pane 82 = .ok (.getfield 198, 3) := by decide +kernel
theorem dX10_pane_85 : decode cX10_pane 85 = .ok (.iload_n 1, 1) := by decide +kernel
theorem dX10_pane_86 : decode cX10_pane 86 = .ok (.iaload, 1) := by decide +kernel
theorem dX10_pane_87 : decode cX10_pane 87 = .ok (.ireturn, 1) := by decide +kernel
theorem dX10_pane_88 : decode cX10_pane 88 = .ok (.aload_n 0, 1) := by decide +kernel
theorem dX10_pane_89 : decode cX10_pane 89 = .ok (.getfield 63, 3) := by decide +kernel
theorem dX10_pane_92 : decode cX10_pane 92 = .ok (.getfield 76, 3) := by decide +kernel
theorem dX10_pane_95 : decode cX10_pane 95 = .ok (.iload_n 1, 1) := by decide +kernel
theorem dX10_pane_96 : decode cX10_pane 96 = .ok (.invokevirtual 201, 3) := by decide +kernel
theorem dX10_pane_99 : decode cX10_pane 99 = .ok (.ireturn, 1) := by decide +kernel
theorem dX10_pane_100 : decode cX10_pane 100 = .ok (.aload_n 0, 1) := by decide +kernel
theorem dX10_pane_101 : decode cX10_pane 101 = .ok (.getfield 63, 3) := by decide +kernel
theorem dX10_pane_104 : decode cX10_pane 104 = .ok (.getfield 76, 3) := by decide +kernel
theorem dX10_pane_107 : decode cX10_pane 107 = .ok (.iload_n 1, 1) := by decide +kernel
theorem dX10_pane_108 : decode cX10_pane 108 = .ok (.invokevirtual 205, 3) := by decide +kernel
theorem dX10_pane_111 : decode cX10_pane 111 = .ok (.ifCond .eq 7, 3) := by decide +kernel
theorem dX10_pane_114 : decode cX10_pane 114 = .ok (.iconst 1, 1) := by decide +kernel
theorem dX10_pane_115 : decode cX10_pane 115 = .ok (.goto 4, 3) := by decide +kernel
theorem dX10_pane_118 : decode cX10_pane 118 = .ok (.iconst 0, 1) := by decide +kernel
theorem dX10_pane_119 : decode cX10_pane 119 = .ok (.ireturn, 1) := by decide +kernel
theorem dX10_shows_0 : decode cX10_shows 0 = .ok (.aload_n 0, 1) := by decide +kernel
theorem dX10_shows_1 : decode cX10_shows 1 = .ok (.getfield 63, 3) := by decide +kernel
theorem dX10_shows_4 : decode cX10_shows 4 = .ok (.getfield 76, 3) := by decide +kernel
theorem dX10_shows_7 : decode cX10_shows 7 = .ok (.aload_n 0, 1) := by decide +kernel
theorem dX10_shows_8 : decode cX10_shows 8 = .ok (.iload_n 1, 1) := by decide +kernel
theorem dX10_shows_9 : decode cX10_shows 9 = .ok (.iload_n 2, 1) := by decide +kernel
theorem dX10_shows_10 : decode cX10_shows 10 = .ok (.iload_n 3, 1) := by decide +kernel
theorem dX10_shows_11 : decode cX10_shows 11 = .ok (.invokevirtual 209, 3) := by decide +kernel
theorem dX10_shows_14 : decode cX10_shows 14 = .ok (.invokevirtual 213, 3) := by decide +kernel
theorem dX10_shows_17 : decode cX10_shows 17 = .ok (.ireturn, 1) := by decide +kernel
theorem dX10_deep_0 : decode cX10_deep 0 = .ok (.aload_n 0, 1) := by decide +kernel
theorem dX10_deep_1 : decode cX10_deep 1 = .ok (.getfield 63, 3) := by decide +kernel
theorem dX10_deep_4 : decode cX10_deep 4 = .ok (.getfield 76, 3) := by decide +kernel
theorem dX10_deep_7 : decode cX10_deep 7 = .ok (.getfield 216, 3) := by decide +kernel
theorem dX10_deep_10 : decode cX10_deep 10 = .ok (.aload_n 0, 1) := by decide +kernel
theorem dX10_deep_11 : decode cX10_deep 11 = .ok (.iload_n 1, 1) := by decide +kernel
theorem dX10_deep_12 : decode cX10_deep 12 = .ok (.iload_n 2, 1) := by decide +kernel
theorem dX10_deep_13 : decode cX10_deep 13 = .ok (.iload_n 3, 1) := by decide +kernel
theorem dX10_deep_14 : decode cX10_deep 14 = .ok (.invokevirtual 209, 3) := by decide +kernel
theorem dX10_deep_17 : decode cX10_deep 17 = .ok (.iaload, 1) := by decide +kernel
theorem dX10_deep_18 : decode cX10_deep 18 = .ok (.ireturn, 1) := by decide +kernel
theorem dX10_film_0 : decode cX10_film 0 = .ok (.aload_n 0, 1) := by decide +kernel
theorem dX10_film_1 : decode cX10_film 1 = .ok (.getfield 63, 3) := by decide +kernel
theorem dX10_film_4 : decode cX10_film 4 = .ok (.getfield 76, 3) := by decide +kernel
theorem dX10_film_7 : decode cX10_film 7 = .ok (.aload_n 0, 1) := by decide +kernel
theorem dX10_film_8 : decode cX10_film 8 = .ok (.iload_n 1, 1) := by decide +kernel
theorem dX10_film_9 : decode cX10_film 9 = .ok (.iload_n 2, 1) := by decide +kernel
theorem dX10_film_10 : decode cX10_film 10 = .ok (.iload_n 3, 1) := by decide +kernel
theorem dX10_film_11 : decode cX10_film 11 = .ok (.invokevirtual 209, 3) := by decide +kernel
theorem dX10_film_14 : decode cX10_film 14 = .ok (.iload 4, 2) := by decide +kernel
theorem dX10_film_16 : decode cX10_film 16 = .ok (.invokevirtual 219, 3) := by decide +kernel
theorem dX10_film_19 : decode cX10_film 19 = .ok (.ireturn, 1) := by decide +kernel
theorem dX10_films_0 : decode cX10_films 0 = .ok (.aload_n 0, 1) := by decide +kernel
theorem dX10_films_1 : decode cX10_films 1 = .ok (.iload_n 1, 1) := by decide +kernel
theorem dX10_films_2 : decode cX10_films 2 = .ok (.iconst 1, 1) := by decide +kernel
theorem dX10_films_3 : decode cX10_films 3 = .ok (.if_icmp .lt 14, 3) := by decide +kernel
theorem dX10_films_6 : decode cX10_films 6 = .ok (.iload_n 1, 1) := by decide +kernel
theorem dX10_films_7 : decode cX10_films 7 = .ok (.sipush 200, 3) := by decide +kernel
theorem dX10_films_10 : decode cX10_films 10 = .ok (.if_icmp .gt 7, 3) := by decide +kernel
theorem dX10_films_13 : decode cX10_films 13 = .ok (.iconst 1, 1) := by decide +kernel
theorem dX10_films_14 : decode cX10_films 14 = .ok (.goto 4, 3) := by decide +kernel
theorem dX10_films_17 : decode cX10_films 17 = .ok (.iconst 0, 1) := by decide +kernel
theorem dX10_films_18 : decode cX10_films 18 = .ok (.invokevirtual 223, 3) := by decide +kernel
theorem dX10_films_21 : decode cX10_films 21 = .ok (.aload_n 0, 1) := by decide +kernel
theorem dX10_films_22 : decode cX10_films 22 = .ok (.iload_n 2, 1) := by decide +kernel
theorem dX10_films_23 : decode cX10_films 23 = .ok (.iconst 1, 1) := by decide +kernel
theorem dX10_films_24 : decode cX10_films 24 = .ok (.invokevirtual 162, 3) := by decide +kernel
theorem dX10_films_27 : decode cX10_films 27 = .ok (.iload_n 2, 1) := by decide +kernel
theorem dX10_films_28 : decode cX10_films 28 = .ok (.ifCond .ne 18, 3) := by decide +kernel
theorem dX10_films_31 : decode cX10_films 31 = .ok (.aload_n 0, 1) := by decide +kernel
theorem dX10_films_32 : decode cX10_films 32 = .ok (.getfield 63, 3) := by decide +kernel
theorem dX10_films_35 : decode cX10_films 35 = .ok (.getfield 76, 3) := by decide +kernel
theorem dX10_films_38 : decode cX10_films 38 = .ok (.getfield 227, 3) := by decide +kernel
theorem dX10_films_41 : decode cX10_films 41 = .ok (.iload_n 1, 1) := by decide +kernel
theorem dX10_films_42 : decode cX10_films 42 = .ok (.iaload, 1) := by decide +kernel
theorem dX10_films_43 : decode cX10_films 43 = .ok (.goto 14, 3) := by decide +kernel
theorem dX10_films_46 : decode cX10_films 46 = .ok (.aload_n 0, 1) := by decide +kernel
theorem dX10_films_47 : decode cX10_films 47 = .ok (.getfield 63, 3) := by decide +kernel
theorem dX10_films_50 : decode cX10_films 50 = .ok (.getfield 76, 3) := by decide +kernel
theorem dX10_films_53 : decode cX10_films 53 = .ok (.iload_n 1, 1) := by decide +kernel
theorem dX10_films_54 : decode cX10_films 54 = .ok (.invokevirtual 230, 3) := by decide +kernel
theorem dX10_films_57 : decode cX10_films 57 = .ok (.ireturn, 1) := by decide +kernel
theorem dX10_have_0 : decode cX10_have 0 = .ok (.aload_n 0, 1) := by decide +kernel
theorem dX10_have_1 : decode cX10_have 1 = .ok (.iload_n 1, 1) := by decide +kernel
theorem dX10_have_2 : decode cX10_have 2 = .ok (.invokevirtual 186, 3) := by decide +kernel
theorem dX10_have_5 : decode cX10_have 5 = .ok (.aload_n 0, 1) := by decide +kernel
theorem dX10_have_6 : decode cX10_have 6 = .ok (.iload_n 2, 1) := by decide +kernel
theorem dX10_have_7 : decode cX10_have 7 = .ok (.iconst 1, 1) := by decide +kernel
theorem dX10_have_8 : decode cX10_have 8 = .ok (.if_icmp .lt 14, 3) := by decide +kernel
theorem dX10_have_11 : decode cX10_have 11 = .ok (.iload_n 2, 1) := by decide +kernel
theorem dX10_have_12 : decode cX10_have 12 = .ok (.sipush 200, 3) := by decide +kernel
theorem dX10_have_15 : decode cX10_have 15 = .ok (.if_icmp .gt 7, 3) := by decide +kernel
theorem dX10_have_18 : decode cX10_have 18 = .ok (.iconst 1, 1) := by decide +kernel
theorem dX10_have_19 : decode cX10_have 19 = .ok (.goto 4, 3) := by decide +kernel
theorem dX10_have_22 : decode cX10_have 22 = .ok (.iconst 0, 1) := by decide +kernel
theorem dX10_have_23 : decode cX10_have 23 = .ok (.invokevirtual 223, 3) := by decide +kernel
theorem dX10_have_26 : decode cX10_have 26 = .ok (.aload_n 0, 1) := by decide +kernel
theorem dX10_have_27 : decode cX10_have 27 = .ok (.getfield 49, 3) := by decide +kernel
theorem dX10_have_30 : decode cX10_have 30 = .ok (.aload_n 0, 1) := by decide +kernel
theorem dX10_have_31 : decode cX10_have 31 = .ok (.getfield 63, 3) := by decide +kernel
theorem dX10_have_34 : decode cX10_have 34 = .ok (.getfield 76, 3) := by decide +kernel
theorem dX10_have_37 : decode cX10_have 37 = .ok (.iload_n 1, 1) := by decide +kernel
theorem dX10_have_38 : decode cX10_have 38 = .ok (.iload_n 2, 1) := by decide +kernel
theorem dX10_have_39 : decode cX10_have 39 = .ok (.invokevirtual 233, 3) := by decide +kernel
theorem dX10_have_42 : decode cX10_have 42 = .ok (.ireturn, 1) := by decide +kernel
theorem dX10_showing_0 : decode cX10_showing 0 = .ok (.aload_n 0, 1) := by decide +kernel
theorem dX10_showing_1 : decode cX10_showing 1 = .ok (.iload_n 1, 1) := by decide +kernel
theorem dX10_showing_2 : decode cX10_showing 2 = .ok (.invokevirtual 186, 3) := by decide +kernel
theorem dX10_showing_5 : decode cX10_showing 5 = .ok (.aload_n 0, 1) := by decide +kernel
theorem dX10_showing_6 : decode cX10_showing 6 = .ok (.iload_n 2, 1) := by decide +kernel
theorem dX10_showing_7 : decode cX10_showing 7 = .ok (.ifCond .lt 14, 3) := by decide +kernel
theorem dX10_showing_10 : decode cX10_showing 10 = .ok (.iload_n 2, 1) := by decide +kernel
theorem dX10_showing_11 : decode cX10_showing 11 = .ok (.sipush 200, 3) := by decide +kernel
theorem dX10_showing_14 : decode cX10_showing 14 = .ok (.if_icmp .gt 7, 3) := by decide +kernel
theorem dX10_showing_17 : decode cX10_showing 17 = .ok (.iconst 1, 1) := by decide +kernel
theorem dX10_showing_18 : decode cX10_showing 18 = .ok (.goto 4, 3) := by decide +kernel
theorem dX10_showing_21 : decode cX10_showing 21 = .ok (.iconst 0, 1) := by decide +kernel
theorem dX10_showing_22 : decode cX10_showing 22 = .ok (.invokevirtual 223, 3) := by decide +kernel
theorem dX10_showing_25 : decode cX10_showing 25 = .ok (.aload_n 0, 1) := by decide +kernel
theorem dX10_showing_26 : decode cX10_showing 26 = .ok (.getfield 49, 3) := by decide +kernel
theorem dX10_showing_29 : decode cX10_showing 29 = .ok (.aload_n 0, 1) := by decide +kernel
theorem dX10_showing_30 : decode cX10_showing 30 = .ok (.getfield 63, 3) := by decide +kernel
theorem dX10_showing_33 : decode cX10_showing 33 = .ok (.getfield 76, 3) := by decide +kernel
theorem dX10_showing_36 : decode cX10_showing 36 = .ok (.iload_n 1, 1) := by decide +kernel
theorem dX10_showing_37 : decode cX10_showing 37 = .ok (.aload_n 0, 1) := by decide +kernel
theorem dX10_showing_38 : decode cX10_showing 38 = .ok (.getfield 19, 3) := by decide +kernel
theorem dX10_showing_41 : decode cX10_showing 41 = .ok (.getfield 237, 3) := by decide +kernel
theorem dX10_showing_44 : decode cX10_showing 44 = .ok (.iload_n 1, 1) := by decide +kernel
theorem dX10_showing_45 : decode cX10_showing 45 = .ok (.iaload, 1) := by decide +kernel
theorem dX10_showing_46 : decode cX10_showing 46 = .ok (.iload_n 2, 1) := by decide +kernel
theorem dX10_showing_47 : decode cX10_showing 47 = .ok (.invokevirtual 240, 3) := by decide +kernel
theorem dX10_showing_50 : decode cX10_showing 50 = .ok (.ireturn, 1) := by decide +kernel
theorem dX10_settles_0 : decode cX10_settles 0 = .ok (.aload_n 0, 1) := by decide +kernel
theorem dX10_settles_1 : decode cX10_settles 1 = .ok (.iload_n 1, 1) := by decide +kernel
theorem dX10_settles_2 : decode cX10_settles 2 = .ok (.iload_n 2, 1) := by decide +kernel
theorem dX10_settles_3 : decode cX10_settles 3 = .ok (.iload_n 3, 1) := by decide +kernel
theorem dX10_settles_4 : decode cX10_settles 4 = .ok (.invokevirtual 209, 3) := by decide +kernel
theorem dX10_settles_7 : decode cX10_settles 7 = .ok (.istore 4, 2) := by decide +kernel
theorem dX10_settles_9 : decode cX10_settles 9 = .ok (.aload_n 0, 1) := by decide +kernel
theorem dX10_settles_10 : decode cX10_settles 10 = .ok (.getfield 63, 3) := by decide +kernel
theorem dX10_settles_13 : decode cX10_settles 13 = .ok (.getfield 76, 3) := by decide +kernel
theorem dX10_settles_16 : decode cX10_settles 16 = .ok (.astore 5, 2) := by decide +kernel
theorem dX10_settles_18 : decode cX10_settles 18 = .ok (.aload 5, 2) := by decide +kernel
theorem dX10_settles_20 : decode cX10_settles 20 = .ok (.iload_n 1, 1) := by decide +kernel
theorem dX10_settles_21 : decode cX10_settles 21 = .ok (.invokevirtual 205, 3) := by decide +kernel
theorem dX10_settles_24 : decode cX10_settles 24 = .ok (.ifCond .ne 14, 3) := by decide +kernel
theorem dX10_settles_27 : decode cX10_settles 27 = .ok (.aload 5, 2) := by decide +kernel
theorem dX10_settles_29 : decode cX10_settles 29 = .ok (.getfield 171, 3) := by decide +kernel
theorem dX10_settles_32 : decode cX10_settles 32 = .ok (.sipush 200, 3) := by decide +kernel
theorem dX10_settles_35 : decode cX10_settles 35 = .ok (.if_icmp .lt 5, 3) := by decide +kernel
theorem dX10_settles_38 : decode cX10_settles 38 = .ok (.iconst 0, 1) := by decide +kernel
theorem dX10_settles_39 : decode cX10_settles 39 = .ok (.ireturn, 1) := by decide +kernel
theorem dX10_settles_40 : decode cX10_settles 40 = .ok (.aload_n 0, 1) := by decide +kernel
theorem dX10_settles_41 : decode cX10_settles 41 = .ok (.getfield 70, 3) := by decide +kernel
theorem dX10_settles_44 : decode cX10_settles 44 = .ok (.aload 5, 2) := by decide +kernel
theorem dX10_settles_46 : decode cX10_settles 46 = .ok (.aload_n 0, 1) := by decide +kernel
theorem dX10_settles_47 : decode cX10_settles 47 = .ok (.getfield 19, 3) := by decide +kernel
theorem dX10_settles_50 : decode cX10_settles 50 = .ok (.aload_n 0, 1) := by decide +kernel
theorem dX10_settles_51 : decode cX10_settles 51 = .ok (.getfield 29, 3) := by decide +kernel
theorem dX10_settles_54 : decode cX10_settles 54 = .ok (.iload 4, 2) := by decide +kernel
theorem dX10_settles_56 : decode cX10_settles 56 = .ok (.invokevirtual 244, 3) := by decide +kernel
theorem dX10_settles_59 : decode cX10_settles 59 = .ok (.ireturn, 1) := by decide +kernel
theorem dX10_order_0 : decode cX10_order 0 = .ok (.aload_n 0, 1) := by decide +kernel
theorem dX10_order_1 : decode cX10_order 1 = .ok (.iload_n 1, 1) := by decide +kernel
theorem dX10_order_2 : decode cX10_order 2 = .ok (.invokevirtual 248, 3) := by decide +kernel
theorem dX10_order_5 : decode cX10_order 5 = .ok (.aload_n 0, 1) := by decide +kernel
theorem dX10_order_6 : decode cX10_order 6 = .ok (.iload_n 2, 1) := by decide +kernel
theorem dX10_order_7 : decode cX10_order 7 = .ok (.iconst 5, 1) := by decide +kernel
theorem dX10_order_8 : decode cX10_order 8 = .ok (.invokevirtual 162, 3) := by decide +kernel
theorem dX10_order_11 : decode cX10_order 11 = .ok (.iload_n 2, 1) := by decide +kernel
theorem dX10_order_12 : decode cX10_order 12 = .ok (.iconst 5, 1) := by decide +kernel
theorem dX10_order_13 : decode cX10_order 13 = .ok (.if_icmp .ne 11, 3) := by decide +kernel
theorem dX10_order_16 : decode cX10_order 16 = .ok (.aload_n 0, 1) := by decide +kernel
theorem dX10_order_17 : decode cX10_order 17 = .ok (.iload_n 1, 1) := by decide +kernel
theorem dX10_order_18 : decode cX10_order 18 = .ok (.invokevirtual 251, 3) := by decide +kernel
theorem dX10_order_21 : decode cX10_order 21 = .ok (.goto 12, 3) := by decide +kernel
theorem dX10_order_24 : decode cX10_order 24 = .ok (.aload_n 0, 1) := by decide +kernel
theorem dX10_order_25 : decode cX10_order 25 = .ok (.getfield 19, 3) := by decide +kernel
theorem dX10_order_28 : decode cX10_order 28 = .ok (.iload_n 1, 1) := by decide +kernel
theorem dX10_order_29 : decode cX10_order 29 = .ok (.iload_n 2, 1) := by decide +kernel
theorem dX10_order_30 : decode cX10_order 30 = .ok (.invokevirtual 254, 3) := by decide +kernel
theorem dX10_order_33 : decode cX10_order 33 = .ok (.ireturn, 1) := by decide +kernel
theorem dX10_needs_0 : decode cX10_needs 0 = .ok (.aload_n 0, 1) := by decide +kernel
theorem dX10_needs_1 : decode cX10_needs 1 = .ok (.iload_n 1, 1) := by decide +kernel
theorem dX10_needs_2 : decode cX10_needs 2 = .ok (.invokevirtual 248, 3) := by decide +kernel
theorem dX10_needs_5 : decode cX10_needs 5 = .ok (.aload_n 0, 1) := by decide +kernel
theorem dX10_needs_6 : decode cX10_needs 6 = .ok (.getfield 63, 3) := by decide +kernel
theorem dX10_needs_9 : decode cX10_needs 9 = .ok (.getfield 76, 3) := by decide +kernel
theorem dX10_needs_12 : decode cX10_needs 12 = .ok (.aload_n 0, 1) := by decide +kernel
theorem dX10_needs_13 : decode cX10_needs 13 = .ok (.getfield 19, 3) := by decide +kernel
theorem dX10_needs_16 : decode cX10_needs 16 = .ok (.iload_n 1, 1) := by decide +kernel
theorem dX10_needs_17 : decode cX10_needs 17 = .ok (.invokevirtual 257, 3) := by decide +kernel
theorem dX10_needs_20 : decode cX10_needs 20 = .ok (.aload_n 0, 1) := by decide +kernel
theorem dX10_needs_21 : decode cX10_needs 21 = .ok (.getfield 19, 3) := by decide +kernel
theorem dX10_needs_24 : decode cX10_needs 24 = .ok (.iload_n 1, 1) := by decide +kernel
theorem dX10_needs_25 : decode cX10_needs 25 = .ok (.iconst 3, 1) := by decide +kernel
theorem dX10_needs_26 : decode cX10_needs 26 = .ok (.invokevirtual 254, 3) := by decide +kernel
theorem dX10_needs_29 : decode cX10_needs 29 = .ok (.invokevirtual 260, 3) := by decide +kernel
theorem dX10_needs_32 : decode cX10_needs 32 = .ok (.ireturn, 1) := by decide +kernel
theorem dX10_lost_0 : decode cX10_lost 0 = .ok (.iconst 0, 1) := by decide +kernel
theorem dX10_lost_1 : decode cX10_lost 1 = .ok (.istore_n 1, 1) := by decide +kernel
theorem dX10_lost_2 : decode cX10_lost 2 = .ok (.iload_n 1, 1) := by decide +kernel
theorem dX10_lost_3 : decode cX10_lost 3 = .ok (.aload_n 0, 1) := by decide +kernel
theorem dX10_lost_4 : decode cX10_lost 4 = .ok (.getfield 19, 3) := by decide +kernel
theorem dX10_lost_7 : decode cX10_lost 7 = .ok (.getfield 165, 3) := by decide +kernel
theorem dX10_lost_10 : decode cX10_lost 10 = .ok (.if_icmp .ge 20, 3) := by decide +kernel
theorem dX10_lost_13 : decode cX10_lost 13 = .ok (.aload_n 0, 1) := by decide +kernel
theorem dX10_lost_14 : decode cX10_lost 14 = .ok (.iload_n 1, 1) := by decide +kernel
theorem dX10_lost_15 : decode cX10_lost 15 = .ok (.invokevirtual 251, 3) := by decide +kernel
theorem dX10_lost_18 : decode cX10_lost 18 = .ok (.iconst 2, 1) := by decide +kernel
theorem dX10_lost_19 : decode cX10_lost 19 = .ok (.if_icmp .lt 5, 3) := by decide +kernel
theorem dX10_lost_22 : decode cX10_lost 22 = .ok (.iload_n 1, 1) := by decide +kernel
theorem dX10_lost_23 : decode cX10_lost 23 = .ok (.ireturn, 1) := by decide +kernel
theorem dX10_lost_24 : decode cX10_lost 24 = .ok (.iinc 1 1, 3) := by decide +kernel
theorem dX10_lost_27 : decode cX10_lost 27 = .ok (.goto (-25), 3) := by decide +kernel
theorem dX10_lost_30 : decode cX10_lost 30 = .ok (.iconst (-1), 1) := by decide +kernel
theorem dX10_lost_31 : decode cX10_lost 31 = .ok (.ireturn, 1) := by decide +kernel
theorem dX10_cost_0 : decode cX10_cost 0 = .ok (.aload_n 0, 1) := by decide +kernel
theorem dX10_cost_1 : decode cX10_cost 1 = .ok (.iload_n 1, 1) := by decide +kernel
theorem dX10_cost_2 : decode cX10_cost 2 = .ok (.invokevirtual 186, 3) := by decide +kernel
theorem dX10_cost_5 : decode cX10_cost 5 = .ok (.aload_n 0, 1) := by decide +kernel
theorem dX10_cost_6 : decode cX10_cost 6 = .ok (.iload_n 1, 1) := by decide +kernel
theorem dX10_cost_7 : decode cX10_cost 7 = .ok (.iload_n 2, 1) := by decide +kernel
theorem dX10_cost_8 : decode cX10_cost 8 = .ok (.invokevirtual 263, 3) := by decide +kernel
theorem dX10_cost_11 : decode cX10_cost 11 = .ok (.aload_n 0, 1) := by decide +kernel
theorem dX10_cost_12 : decode cX10_cost 12 = .ok (.iload_n 3, 1) := by decide +kernel
theorem dX10_cost_13 : decode cX10_cost 13 = .ok (.iconst 1, 1) := by decide +kernel
theorem dX10_cost_14 : decode cX10_cost 14 = .ok (.if_icmp .lt 14, 3) := by decide +kernel
theorem dX10_cost_17 : decode cX10_cost 17 = .ok (.iload_n 3, 1) := by decide +kernel
theorem dX10_cost_18 : decode cX10_cost 18 = .ok (.sipush 200, 3) := by decide +kernel
theorem dX10_cost_21 : decode cX10_cost 21 = .ok (.if_icmp .gt 7, 3) := by decide +kernel
theorem dX10_cost_24 : decode cX10_cost 24 = .ok (.iconst 1, 1) := by decide +kernel
theorem dX10_cost_25 : decode cX10_cost 25 = .ok (.goto 4, 3) := by decide +kernel
theorem dX10_cost_28 : decode cX10_cost 28 = .ok (.iconst 0, 1) := by decide +kernel
theorem dX10_cost_29 : decode cX10_cost 29 = .ok (.invokevirtual 223, 3) := by decide +kernel
theorem dX10_cost_32 : decode cX10_cost 32 = .ok (.aload_n 0, 1) := by decide +kernel
theorem dX10_cost_33 : decode cX10_cost 33 = .ok (.getfield 49, 3) := by decide +kernel
theorem dX10_cost_36 : decode cX10_cost 36 = .ok (.aload_n 0, 1) := by decide +kernel
theorem dX10_cost_37 : decode cX10_cost 37 = .ok (.getfield 63, 3) := by decide +kernel
theorem dX10_cost_40 : decode cX10_cost 40 = .ok (.getfield 76, 3) := by decide +kernel
theorem dX10_cost_43 : decode cX10_cost 43 = .ok (.iload_n 1, 1) := by decide +kernel
theorem dX10_cost_44 : decode cX10_cost 44 = .ok (.iload_n 2, 1) := by decide +kernel
theorem dX10_cost_45 : decode cX10_cost 45 = .ok (.iload_n 3, 1) := by decide +kernel
theorem dX10_cost_46 : decode cX10_cost 46 = .ok (.invokevirtual 266, 3) := by decide +kernel
theorem dX10_cost_49 : decode cX10_cost 49 = .ok (.ireturn, 1) := by decide +kernel
theorem dX10_view_0 : decode cX10_view 0 = .ok (.aload_n 0, 1) := by decide +kernel
theorem dX10_view_1 : decode cX10_view 1 = .ok (.iload_n 1, 1) := by decide +kernel
theorem dX10_view_2 : decode cX10_view 2 = .ok (.invokevirtual 186, 3) := by decide +kernel
theorem dX10_view_5 : decode cX10_view 5 = .ok (.aload_n 0, 1) := by decide +kernel
theorem dX10_view_6 : decode cX10_view 6 = .ok (.iload_n 1, 1) := by decide +kernel
theorem dX10_view_7 : decode cX10_view 7 = .ok (.iload_n 2, 1) := by decide +kernel
theorem dX10_view_8 : decode cX10_view 8 = .ok (.invokevirtual 263, 3) := by decide +kernel
theorem dX10_view_11 : decode cX10_view 11 = .ok (.aload_n 0, 1) := by decide +kernel
theorem dX10_view_12 : decode cX10_view 12 = .ok (.iload_n 3, 1) := by decide +kernel
theorem dX10_view_13 : decode cX10_view 13 = .ok (.iconst 1, 1) := by decide +kernel
theorem dX10_view_14 : decode cX10_view 14 = .ok (.invokevirtual 162, 3) := by decide +kernel
theorem dX10_view_17 : decode cX10_view 17 = .ok (.aload_n 0, 1) := by decide +kernel
theorem dX10_view_18 : decode cX10_view 18 = .ok (.getfield 49, 3) := by decide +kernel
theorem dX10_view_21 : decode cX10_view 21 = .ok (.aload_n 0, 1) := by decide +kernel
theorem dX10_view_22 : decode cX10_view 22 = .ok (.getfield 63, 3) := by decide +kernel
theorem dX10_view_25 : decode cX10_view 25 = .ok (.getfield 76, 3) := by decide +kernel
theorem dX10_view_28 : decode cX10_view 28 = .ok (.iload_n 1, 1) := by decide +kernel
theorem dX10_view_29 : decode cX10_view 29 = .ok (.iload_n 2, 1) := by decide +kernel
theorem dX10_view_30 : decode cX10_view 30 = .ok (.invokevirtual 269, 3) := by decide +kernel
theorem dX10_view_33 : decode cX10_view 33 = .ok (.istore 4, 2) := by decide +kernel
theorem dX10_view_35 : decode cX10_view 35 = .ok (.iload_n 3, 1) := by decide +kernel
theorem dX10_view_36 : decode cX10_view 36 = .ok (.ifCond .eq 9, 3) := by decide +kernel
theorem dX10_view_39 : decode cX10_view 39 = .ok (.iload 4, 2) := by decide +kernel
theorem dX10_view_41 : decode cX10_view 41 = .ok (.iconst (-1), 1) := by decide +kernel
theorem dX10_view_42 : decode cX10_view 42 = .ok (.if_icmp .ne 8, 3) := by decide +kernel
theorem dX10_view_45 : decode cX10_view 45 = .ok (.iload 4, 2) := by decide +kernel
theorem dX10_view_47 : decode cX10_view 47 = .ok (.goto 21, 3) := by decide +kernel
theorem dX10_view_50 : decode cX10_view 50 = .ok (.aload_n 0, 1) := by decide +kernel
theorem dX10_view_51 : decode cX10_view 51 = .ok (.getfield 49, 3) := by decide +kernel
theorem dX10_view_54 : decode cX10_view 54 = .ok (.aload_n 0, 1) := by decide +kernel
theorem dX10_view_55 : decode cX10_view 55 = .ok (.getfield 63, 3) := by decide +kernel
theorem dX10_view_58 : decode cX10_view 58 = .ok (.getfield 76, 3) := by decide +kernel
theorem dX10_view_61 : decode cX10_view 61 = .ok (.iload_n 1, 1) := by decide +kernel
theorem dX10_view_62 : decode cX10_view 62 = .ok (.iload_n 2, 1) := by decide +kernel
theorem dX10_view_63 : decode cX10_view 63 = .ok (.iload 4, 2) := by decide +kernel
theorem dX10_view_65 : decode cX10_view 65 = .ok (.invokevirtual 266, 3) := by decide +kernel
theorem dX10_view_68 : decode cX10_view 68 = .ok (.ireturn, 1) := by decide +kernel
theorem dX10_seams_0 : decode cX10_seams 0 = .ok (.aload_n 0, 1) := by decide +kernel
theorem dX10_seams_1 : decode cX10_seams 1 = .ok (.iload_n 1, 1) := by decide +kernel
theorem dX10_seams_2 : decode cX10_seams 2 = .ok (.invokevirtual 186, 3) := by decide +kernel
theorem dX10_seams_5 : decode cX10_seams 5 = .ok (.aload_n 0, 1) := by decide +kernel
theorem dX10_seams_6 : decode cX10_seams 6 = .ok (.getfield 49, 3) := by decide +kernel
theorem dX10_seams_9 : decode cX10_seams 9 = .ok (.aload_n 0, 1) := by decide +kernel
theorem dX10_seams_10 : decode cX10_seams 10 = .ok (.getfield 63, 3) := by decide +kernel
theorem dX10_seams_13 : decode cX10_seams 13 = .ok (.getfield 76, 3) := by decide +kernel
theorem dX10_seams_16 : decode cX10_seams 16 = .ok (.iload_n 1, 1) := by decide +kernel
theorem dX10_seams_17 : decode cX10_seams 17 = .ok (.aload_n 0, 1) := by decide +kernel
theorem dX10_seams_18 : decode cX10_seams 18 = .ok (.getfield 19, 3) := by decide +kernel
theorem dX10_seams_21 : decode cX10_seams 21 = .ok (.getfield 237, 3) := by decide +kernel
theorem dX10_seams_24 : decode cX10_seams 24 = .ok (.iload_n 1, 1) := by decide +kernel
theorem dX10_seams_25 : decode cX10_seams 25 = .ok (.iaload, 1) := by decide +kernel
theorem dX10_seams_26 : decode cX10_seams 26 = .ok (.invokevirtual 272, 3) := by decide +kernel
theorem dX10_seams_29 : decode cX10_seams 29 = .ok (.ireturn, 1) := by decide +kernel
theorem dX10_sights_0 : decode cX10_sights 0 = .ok (.aload_n 0, 1) := by decide +kernel
theorem dX10_sights_1 : decode cX10_sights 1 = .ok (.iload_n 1, 1) := by decide +kernel
theorem dX10_sights_2 : decode cX10_sights 2 = .ok (.invokevirtual 186, 3) := by decide +kernel
theorem dX10_sights_5 : decode cX10_sights 5 = .ok (.aload_n 0, 1) := by decide +kernel
theorem dX10_sights_6 : decode cX10_sights 6 = .ok (.getfield 49, 3) := by decide +kernel
theorem dX10_sights_9 : decode cX10_sights 9 = .ok (.aload_n 0, 1) := by decide +kernel
theorem dX10_sights_10 : decode cX10_sights 10 = .ok (.getfield 63, 3) := by decide +kernel
theorem dX10_sights_13 : decode cX10_sights 13 = .ok (.getfield 76, 3) := by decide +kernel
theorem dX10_sights_16 : decode cX10_sights 16 = .ok (.iload_n 1, 1) := by decide +kernel
theorem dX10_sights_17 : decode cX10_sights 17 = .ok (.invokevirtual 275, 3) := by decide +kernel
theorem dX10_sights_20 : decode cX10_sights 20 = .ok (.ireturn, 1) := by decide +kernel
theorem dX10_alike_0 : decode cX10_alike 0 = .ok (.aload_n 0, 1) := by decide +kernel
theorem dX10_alike_1 : decode cX10_alike 1 = .ok (.iload_n 1, 1) := by decide +kernel
theorem dX10_alike_2 : decode cX10_alike 2 = .ok (.invokevirtual 186, 3) := by decide +kernel
theorem dX10_alike_5 : decode cX10_alike 5 = .ok (.aload_n 0, 1) := by decide +kernel
theorem dX10_alike_6 : decode cX10_alike 6 = .ok (.iload_n 2, 1) := by decide +kernel
theorem dX10_alike_7 : decode cX10_alike 7 = .ok (.invokevirtual 186, 3) := by decide +kernel
theorem dX10_alike_10 : decode cX10_alike 10 = .ok (.aload_n 0, 1) := by decide +kernel
theorem dX10_alike_11 : decode cX10_alike 11 = .ok (.getfield 49, 3) := by decide +kernel
theorem dX10_alike_14 : decode cX10_alike 14 = .ok (.aload_n 0, 1) := by decide +kernel
theorem dX10_alike_15 : decode cX10_alike 15 = .ok (.getfield 63, 3) := by decide +kernel
theorem dX10_alike_18 : decode cX10_alike 18 = .ok (.getfield 76, 3) := by decide +kernel
theorem dX10_alike_21 : decode cX10_alike 21 = .ok (.iload_n 1, 1) := by decide +kernel
theorem dX10_alike_22 : decode cX10_alike 22 = .ok (.iload_n 2, 1) := by decide +kernel
theorem dX10_alike_23 : decode cX10_alike 23 = .ok (.aload_n 0, 1) := by decide +kernel
theorem dX10_alike_24 : decode cX10_alike 24 = .ok (.getfield 19, 3) := by decide +kernel
theorem dX10_alike_27 : decode cX10_alike 27 = .ok (.getfield 237, 3) := by decide +kernel
theorem dX10_alike_30 : decode cX10_alike 30 = .ok (.iload_n 1, 1) := by decide +kernel
theorem dX10_alike_31 : decode cX10_alike 31 = .ok (.iaload, 1) := by decide +kernel
theorem dX10_alike_32 : decode cX10_alike 32 = .ok (.aload_n 0, 1) := by decide +kernel
theorem dX10_alike_33 : decode cX10_alike 33 = .ok (.getfield 19, 3) := by decide +kernel
theorem dX10_alike_36 : decode cX10_alike 36 = .ok (.getfield 237, 3) := by decide +kernel
theorem dX10_alike_39 : decode cX10_alike 39 = .ok (.iload_n 2, 1) := by decide +kernel
theorem dX10_alike_40 : decode cX10_alike 40 = .ok (.iaload, 1) := by decide +kernel
theorem dX10_alike_41 : decode cX10_alike 41 = .ok (.iand, 1) := by decide +kernel
theorem dX10_alike_42 : decode cX10_alike 42 = .ok (.invokevirtual 279, 3) := by decide +kernel
theorem dX10_alike_45 : decode cX10_alike 45 = .ok (.ireturn, 1) := by decide +kernel
theorem dX10_oldest_0 : decode cX10_oldest 0 = .ok (.aload_n 0, 1) := by decide +kernel
theorem dX10_oldest_1 : decode cX10_oldest 1 = .ok (.iload_n 1, 1) := by decide +kernel
theorem dX10_oldest_2 : decode cX10_oldest 2 = .ok (.invokevirtual 186, 3) := by decide +kernel
theorem dX10_oldest_5 : decode cX10_oldest 5 = .ok (.aload_n 0, 1) := by decide +kernel
theorem dX10_oldest_6 : decode cX10_oldest 6 = .ok (.iload_n 2, 1) := by decide +kernel
theorem dX10_oldest_7 : decode cX10_oldest 7 = .ok (.iconst 1, 1) := by decide +kernel
theorem dX10_oldest_8 : decode cX10_oldest 8 = .ok (.invokevirtual 162, 3) := by decide +kernel
theorem dX10_oldest_11 : decode cX10_oldest 11 = .ok (.iload_n 2, 1) := by decide +kernel
theorem dX10_oldest_12 : decode cX10_oldest 12 = .ok (.ifCond .ne 21, 3) := by decide +kernel
theorem dX10_oldest_15 : decode cX10_oldest 15 = .ok (.aload_n 0, 1) := by decide +kernel
theorem dX10_oldest_16 : decode cX10_oldest 16 = .ok (.getfield 49, 3) := by decide +kernel
theorem dX10_oldest_19 : decode cX10_oldest 19 = .ok (.aload_n 0, 1) := by decide +kernel
theorem dX10_oldest_20 : decode cX10_oldest 20 = .ok (.getfield 63, 3) := by decide +kernel
theorem dX10_oldest_23 : decode cX10_oldest 23 = .ok (.getfield 76, 3) := by decide +kernel
theorem dX10_oldest_26 : decode cX10_oldest 26 = .ok (.iload_n 1, 1) := by decide +kernel
theorem dX10_oldest_27 : decode cX10_oldest 27 = .ok (.invokevirtual 282, 3) := by decide +kernel
theorem dX10_oldest_30 : decode cX10_oldest 30 = .ok (.goto 18, 3) := by decide +kernel
theorem dX10_oldest_33 : decode cX10_oldest 33 = .ok (.aload_n 0, 1) := by decide +kernel
theorem dX10_oldest_34 : decode cX10_oldest 34 = .ok (.getfield 49, 3) := by decide +kernel
theorem dX10_oldest_37 : decode cX10_oldest 37 = .ok (.aload_n 0, 1) := by decide +kernel
theorem dX10_oldest_38 : decode cX10_oldest 38 = .ok (.getfield 63, 3) := by decide +kernel
theorem dX10_oldest_41 : decode cX10_oldest 41 = .ok (.getfield 76, 3) := by decide +kernel
theorem dX10_oldest_44 : decode cX10_oldest 44 = .ok (.iload_n 1, 1) := by decide +kernel
theorem dX10_oldest_45 : decode cX10_oldest 45 = .ok (.invokevirtual 285, 3) := by decide +kernel
theorem dX10_oldest_48 : decode cX10_oldest 48 = .ok (.ireturn, 1) := by decide +kernel
theorem dX10_thick_0 : decode cX10_thick 0 = .ok (.aload_n 0, 1) := by decide +kernel
theorem dX10_thick_1 : decode cX10_thick 1 = .ok (.getfield 63, 3) := by decide +kernel
theorem dX10_thick_4 : decode cX10_thick 4 = .ok (.getfield 76, 3) := by decide +kernel
theorem dX10_thick_7 : decode cX10_thick 7 = .ok (.invokevirtual 288, 3) := by decide +kernel
theorem dX10_thick_10 : decode cX10_thick 10 = .ok (.ireturn, 1) := by decide +kernel
theorem dX10_patch_0 : decode cX10_patch 0 = .ok (.aload_n 0, 1) := by decide +kernel
theorem dX10_patch_1 : decode cX10_patch 1 = .ok (.iload_n 1, 1) := by decide +kernel
theorem dX10_patch_2 : decode cX10_patch 2 = .ok (.invokevirtual 186, 3) := by decide +kernel
theorem dX10_patch_5 : decode cX10_patch 5 = .ok (.aload_n 0, 1) := by decide +kernel
theorem dX10_patch_6 : decode cX10_patch 6 = .ok (.iload_n 2, 1) := by decide +kernel
theorem dX10_patch_7 : decode cX10_patch 7 = .ok (.iconst 1, 1) := by decide +kernel
theorem dX10_patch_8 : decode cX10_patch 8 = .ok (.invokevirtual 162, 3) := by decide +kernel
theorem dX10_patch_11 : decode cX10_patch 11 = .ok (.aload_n 0, 1) := by decide +kernel
theorem dX10_patch_12 : decode cX10_patch 12 = .ok (.getfield 49, 3) := by decide +kernel
theorem dX10_patch_15 : decode cX10_patch 15 = .ok (.aload_n 0, 1) := by decide +kernel
theorem dX10_patch_16 : decode cX10_patch 16 = .ok (.getfield 63, 3) := by decide +kernel
theorem dX10_patch_19 : decode cX10_patch 19 = .ok (.getfield 76, 3) := by decide +kernel
theorem dX10_patch_22 : decode cX10_patch 22 = .ok (.iload_n 1, 1) := by decide +kernel
theorem dX10_patch_23 : decode cX10_patch 23 = .ok (.aload_n 0, 1) := by decide +kernel
theorem dX10_patch_24 : decode cX10_patch 24 = .ok (.getfield 19, 3) := by decide +kernel
theorem dX10_patch_27 : decode cX10_patch 27 = .ok (.getfield 237, 3) := by decide +kernel
theorem dX10_patch_30 : decode cX10_patch 30 = .ok (.iload_n 1, 1) := by decide +kernel
theorem dX10_patch_31 : decode cX10_patch 31 = .ok (.iaload, 1) := by decide +kernel
theorem dX10_patch_32 : decode cX10_patch 32 = .ok (.invokevirtual 291, 3) := by decide +kernel
theorem dX10_patch_35 : decode cX10_patch 35 = .ok (.iload_n 2, 1) := by decide +kernel
theorem dX10_patch_36 : decode cX10_patch 36 = .ok (.ifCond .ne 13, 3) := by decide +kernel
theorem dX10_patch_39 : decode cX10_patch 39 = .ok (.aload_n 0, 1) := by decide +kernel
theorem dX10_patch_40 : decode cX10_patch 40 = .ok (.getfield 49, 3) := by decide +kernel
theorem dX10_patch_43 : decode cX10_patch 43 = .ok (.getfield 295, 3) := by decide +kernel
theorem dX10_patch_46 : decode cX10_patch 46 = .ok (.goto 10, 3) := by decide +kernel
theorem dX10_patch_49 : decode cX10_patch 49 = .ok (.aload_n 0, 1) := by decide +kernel
theorem dX10_patch_50 : decode cX10_patch 50 = .ok (.getfield 49, 3) := by decide +kernel
theorem dX10_patch_53 : decode cX10_patch 53 = .ok (.getfield 298, 3) := by decide +kernel
theorem dX10_patch_56 : decode cX10_patch 56 = .ok (.ireturn, 1) := by decide +kernel
theorem dX10_tells_0 : decode cX10_tells 0 = .ok (.aload_n 0, 1) := by decide +kernel
theorem dX10_tells_1 : decode cX10_tells 1 = .ok (.iload_n 1, 1) := by decide +kernel
theorem dX10_tells_2 : decode cX10_tells 2 = .ok (.invokevirtual 186, 3) := by decide +kernel
theorem dX10_tells_5 : decode cX10_tells 5 = .ok (.aload_n 0, 1) := by decide +kernel
theorem dX10_tells_6 : decode cX10_tells 6 = .ok (.getfield 39, 3) := by decide +kernel
theorem dX10_tells_9 : decode cX10_tells 9 = .ok (.aload_n 0, 1) := by decide +kernel
theorem dX10_tells_10 : decode cX10_tells 10 = .ok (.getfield 63, 3) := by decide +kernel
theorem dX10_tells_13 : decode cX10_tells 13 = .ok (.getfield 76, 3) := by decide +kernel
theorem dX10_tells_16 : decode cX10_tells 16 = .ok (.iload_n 1, 1) := by decide +kernel
theorem dX10_tells_17 : decode cX10_tells 17 = .ok (.aload_n 0, 1) := by decide +kernel
theorem dX10_tells_18 : decode cX10_tells 18 = .ok (.getfield 19, 3) := by decide +kernel
theorem dX10_tells_21 : decode cX10_tells 21 = .ok (.getfield 237, 3) := by decide +kernel
theorem dX10_tells_24 : decode cX10_tells 24 = .ok (.iload_n 1, 1) := by decide +kernel
theorem dX10_tells_25 : decode cX10_tells 25 = .ok (.iaload, 1) := by decide +kernel
theorem dX10_tells_26 : decode cX10_tells 26 = .ok (.invokevirtual 301, 3) := by decide +kernel
theorem dX10_tells_29 : decode cX10_tells 29 = .ok (.ireturn, 1) := by decide +kernel
theorem dX10_look_0 : decode cX10_look 0 = .ok (.aload_n 0, 1) := by decide +kernel
theorem dX10_look_1 : decode cX10_look 1 = .ok (.iload_n 1, 1) := by decide +kernel
theorem dX10_look_2 : decode cX10_look 2 = .ok (.invokevirtual 186, 3) := by decide +kernel
theorem dX10_look_5 : decode cX10_look 5 = .ok (.aload_n 0, 1) := by decide +kernel
theorem dX10_look_6 : decode cX10_look 6 = .ok (.iload_n 2, 1) := by decide +kernel
theorem dX10_look_7 : decode cX10_look 7 = .ok (.iconst 1, 1) := by decide +kernel
theorem dX10_look_8 : decode cX10_look 8 = .ok (.invokevirtual 162, 3) := by decide +kernel
theorem dX10_look_11 : decode cX10_look 11 = .ok (.aload_n 0, 1) := by decide +kernel
theorem dX10_look_12 : decode cX10_look 12 = .ok (.getfield 39, 3) := by decide +kernel
theorem dX10_look_15 : decode cX10_look 15 = .ok (.aload_n 0, 1) := by decide +kernel
theorem dX10_look_16 : decode cX10_look 16 = .ok (.getfield 63, 3) := by decide +kernel
theorem dX10_look_19 : decode cX10_look 19 = .ok (.getfield 76, 3) := by decide +kernel
theorem dX10_look_22 : decode cX10_look 22 = .ok (.iload_n 1, 1) := by decide +kernel
theorem dX10_look_23 : decode cX10_look 23 = .ok (.aload_n 0, 1) := by decide +kernel
theorem dX10_look_24 : decode cX10_look 24 = .ok (.getfield 19, 3) := by decide +kernel
theorem dX10_look_27 : decode cX10_look 27 = .ok (.getfield 237, 3) := by decide +kernel
theorem dX10_look_30 : decode cX10_look 30 = .ok (.iload_n 1, 1) := by decide +kernel
theorem dX10_look_31 : decode cX10_look 31 = .ok (.iaload, 1) := by decide +kernel
theorem dX10_look_32 : decode cX10_look 32 = .ok (.iload_n 2, 1) := by decide +kernel
theorem dX10_look_33 : decode cX10_look 33 = .ok (.iconst 1, 1) := by decide +kernel
theorem dX10_look_34 : decode cX10_look 34 = .ok (.if_icmp .ne 7, 3) := by decide +kernel
theorem dX10_look_37 : decode cX10_look 37 = .ok (.iconst 1, 1) := by decide +kernel
theorem dX10_look_38 : decode cX10_look 38 = .ok (.goto 4, 3) := by decide +kernel
theorem dX10_look_41 : decode cX10_look 41 = .ok (.iconst 0, 1) := by decide +kernel
theorem dX10_look_42 : decode cX10_look 42 = .ok (.invokevirtual 304, 3) := by decide +kernel
theorem dX10_look_45 : decode cX10_look 45 = .ok (.ireturn, 1) := by decide +kernel
theorem dX10_cover_0 : decode cX10_cover 0 = .ok (.aload_n 0, 1) := by decide +kernel
theorem dX10_cover_1 : decode cX10_cover 1 = .ok (.iload_n 1, 1) := by decide +kernel
theorem dX10_cover_2 : decode cX10_cover 2 = .ok (.invokevirtual 186, 3) := by decide +kernel
theorem dX10_cover_5 : decode cX10_cover 5 = .ok (.aload_n 0, 1) := by decide +kernel
theorem dX10_cover_6 : decode cX10_cover 6 = .ok (.iload_n 1, 1) := by decide +kernel
theorem dX10_cover_7 : decode cX10_cover 7 = .ok (.iload_n 2, 1) := by decide +kernel
theorem dX10_cover_8 : decode cX10_cover 8 = .ok (.invokevirtual 263, 3) := by decide +kernel
theorem dX10_cover_11 : decode cX10_cover 11 = .ok (.aload_n 0, 1) := by decide +kernel
theorem dX10_cover_12 : decode cX10_cover 12 = .ok (.iload_n 3, 1) := by decide +kernel
theorem dX10_cover_13 : decode cX10_cover 13 = .ok (.ifCond .lt 13, 3) := by decide +kernel
theorem dX10_cover_16 : decode cX10_cover 16 = .ok (.iload_n 3, 1) := by decide +kernel
theorem dX10_cover_17 : decode cX10_cover 17 = .ok (.bipush 6, 2) := by decide +kernel
theorem dX10_cover_19 : decode cX10_cover 19 = .ok (.if_icmp .gt 7, 3) := by decide +kernel
theorem dX10_cover_22 : decode cX10_cover 22 = .ok (.iconst 1, 1) := by decide +kernel
theorem dX10_cover_23 : decode cX10_cover 23 = .ok (.goto 4, 3) := by decide +kernel
theorem dX10_cover_26 : decode cX10_cover 26 = .ok (.iconst 0, 1) := by decide +kernel
theorem dX10_cover_27 : decode cX10_cover 27 = .ok (.invokevirtual 223, 3) := by decide +kernel
theorem dX10_cover_30 : decode cX10_cover 30 = .ok (.aload_n 0, 1) := by decide +kernel
theorem dX10_cover_31 : decode cX10_cover 31 = .ok (.iload 4, 2) := by decide +kernel
theorem dX10_cover_33 : decode cX10_cover 33 = .ok (.iconst 1, 1) := by decide +kernel
theorem dX10_cover_34 : decode cX10_cover 34 = .ok (.invokevirtual 162, 3) := by decide +kernel
theorem dX10_cover_37 : decode cX10_cover 37 = .ok (.aload_n 0, 1) := by decide +kernel
theorem dX10_cover_38 : decode cX10_cover 38 = .ok (.getfield 49, 3) := by decide +kernel
theorem dX10_cover_41 : decode cX10_cover 41 = .ok (.aload_n 0, 1) := by decide +kernel
theorem dX10_cover_42 : decode cX10_cover 42 = .ok (.getfield 19, 3) := by decide +kernel
theorem dX10_cover_45 : decode cX10_cover 45 = .ok (.getfield 237, 3) := by decide +kernel
theorem dX10_cover_48 : decode cX10_cover 48 = .ok (.iload_n 1, 1) := by decide +kernel
theorem dX10_cover_49 : decode cX10_cover 49 = .ok (.iaload, 1) := by decide +kernel
theorem dX10_cover_50 : decode cX10_cover 50 = .ok (.iload_n 2, 1) := by decide +kernel
theorem dX10_cover_51 : decode cX10_cover 51 = .ok (.iload_n 3, 1) := by decide +kernel
theorem dX10_cover_52 : decode cX10_cover 52 = .ok (.iload 4, 2) := by decide +kernel
theorem dX10_cover_54 : decode cX10_cover 54 = .ok (.iconst 1, 1) := by decide +kernel
theorem dX10_cover_55 : decode cX10_cover 55 = .ok (.if_icmp .ne 7, 3) := by decide +kernel
theorem dX10_cover_58 : decode cX10_cover 58 = .ok (.iconst 1, 1) := by decide +kernel
theorem dX10_cover_59 : decode cX10_cover 59 = .ok (.goto 4, 3) := by decide +kernel
theorem dX10_cover_62 : decode cX10_cover 62 = .ok (.iconst 0, 1) := by decide +kernel
theorem dX10_cover_63 : decode cX10_cover 63 = .ok (.invokevirtual 308, 3) := by decide +kernel
theorem dX10_cover_66 : decode cX10_cover 66 = .ok (.ireturn, 1) := by decide +kernel
theorem dX10_game_0 : decode cX10_game 0 = .ok (.aload_n 0, 1) := by decide +kernel
theorem dX10_game_1 : decode cX10_game 1 = .ok (.iload_n 1, 1) := by decide +kernel
theorem dX10_game_2 : decode cX10_game 2 = .ok (.invokevirtual 186, 3) := by decide +kernel
theorem dX10_game_5 : decode cX10_game 5 = .ok (.aload_n 0, 1) := by decide +kernel
theorem dX10_game_6 : decode cX10_game 6 = .ok (.iload_n 2, 1) := by decide +kernel
theorem dX10_game_7 : decode cX10_game 7 = .ok (.iconst 1, 1) := by decide +kernel
theorem dX10_game_8 : decode cX10_game 8 = .ok (.if_icmp .lt 13, 3) := by decide +kernel
theorem dX10_game_11 : decode cX10_game 11 = .ok (.iload_n 2, 1) := by decide +kernel
theorem dX10_game_12 : decode cX10_game 12 = .ok (.bipush 30, 2) := by decide +kernel
theorem dX10_game_14 : decode cX10_game 14 = .ok (.if_icmp .gt 7, 3) := by decide +kernel
theorem dX10_game_17 : decode cX10_game 17 = .ok (.iconst 1, 1) := by decide +kernel
theorem dX10_game_18 : decode cX10_game 18 = .ok (.goto 4, 3) := by decide +kernel
theorem dX10_game_21 : decode cX10_game 21 = .ok (.iconst 0, 1) := by decide +kernel
theorem dX10_game_22 : decode cX10_game 22 = .ok (.invokevirtual 223, 3) := by decide +kernel
theorem dX10_game_25 : decode cX10_game 25 = .ok (.aload_n 0, 1) := by decide +kernel
theorem dX10_game_26 : decode cX10_game 26 = .ok (.iload_n 3, 1) := by decide +kernel
theorem dX10_game_27 : decode cX10_game 27 = .ok (.iconst 1, 1) := by decide +kernel
theorem dX10_game_28 : decode cX10_game 28 = .ok (.invokevirtual 162, 3) := by decide +kernel
theorem dX10_game_31 : decode cX10_game 31 = .ok (.aload_n 0, 1) := by decide +kernel
theorem dX10_game_32 : decode cX10_game 32 = .ok (.getfield 49, 3) := by decide +kernel
theorem dX10_game_35 : decode cX10_game 35 = .ok (.aload_n 0, 1) := by decide +kernel
theorem dX10_game_36 : decode cX10_game 36 = .ok (.getfield 63, 3) := by decide +kernel
theorem dX10_game_39 : decode cX10_game 39 = .ok (.getfield 76, 3) := by decide +kernel
theorem dX10_game_42 : decode cX10_game 42 = .ok (.iload_n 1, 1) := by decide +kernel
theorem dX10_game_43 : decode cX10_game 43 = .ok (.iload_n 2, 1) := by decide +kernel
theorem dX10_game_44 : decode cX10_game 44 = .ok (.invokevirtual 312, 3) := by decide +kernel
theorem dX10_game_47 : decode cX10_game 47 = .ok (.istore 4, 2) := by decide +kernel
theorem dX10_game_49 : decode cX10_game 49 = .ok (.iload_n 3, 1) := by decide +kernel
theorem dX10_game_50 : decode cX10_game 50 = .ok (.iconst 1, 1) := by decide +kernel
theorem dX10_game_51 : decode cX10_game 51 = .ok (.if_icmp .ne 8, 3) := by decide +kernel
theorem dX10_game_54 : decode cX10_game 54 = .ok (.iload 4, 2) := by decide +kernel
theorem dX10_game_56 : decode cX10_game 56 = .ok (.goto 13, 3) := by decide +kernel
theorem dX10_game_59 : decode cX10_game 59 = .ok (.iload 4, 2) := by decide +kernel
theorem dX10_game_61 : decode cX10_game 61 = .ok (.ifCond .ne 7, 3) := by decide +kernel
theorem dX10_game_64 : decode cX10_game 64 = .ok (.iconst 0, 1) := by decide +kernel
theorem dX10_game_65 : decode cX10_game 65 = .ok (.goto 4, 3) := by decide +kernel
theorem dX10_game_68 : decode cX10_game 68 = .ok (.iconst 1, 1) := by decide +kernel
theorem dX10_game_69 : decode cX10_game 69 = .ok (.ireturn, 1) := by decide +kernel
theorem dX10_round_0 : decode cX10_round 0 = .ok (.aload_n 0, 1) := by decide +kernel
theorem dX10_round_1 : decode cX10_round 1 = .ok (.iload_n 1, 1) := by decide +kernel
theorem dX10_round_2 : decode cX10_round 2 = .ok (.invokevirtual 315, 3) := by decide +kernel
theorem dX10_round_5 : decode cX10_round 5 = .ok (.aload_n 0, 1) := by decide +kernel
theorem dX10_round_6 : decode cX10_round 6 = .ok (.iload_n 2, 1) := by decide +kernel
theorem dX10_round_7 : decode cX10_round 7 = .ok (.iconst 1, 1) := by decide +kernel
theorem dX10_round_8 : decode cX10_round 8 = .ok (.invokevirtual 162, 3) := by decide +kernel
theorem dX10_round_11 : decode cX10_round 11 = .ok (.aload_n 0, 1) := by decide +kernel
theorem dX10_round_12 : decode cX10_round 12 = .ok (.getfield 56, 3) := by decide +kernel
theorem dX10_round_15 : decode cX10_round 15 = .ok (.aload_n 0, 1) := by decide +kernel
theorem dX10_round_16 : decode cX10_round 16 = .ok (.getfield 19, 3) := by decide +kernel
theorem dX10_round_19 : decode cX10_round 19 = .ok (.iload_n 1, 1) := by decide +kernel
theorem dX10_round_20 : decode cX10_round 20 = .ok (.invokevirtual 318, 3) := by decide +kernel
theorem dX10_round_23 : decode cX10_round 23 = .ok (.iload_n 2, 1) := by decide +kernel
theorem dX10_round_24 : decode cX10_round 24 = .ok (.ifCond .ne 13, 3) := by decide +kernel
theorem dX10_round_27 : decode cX10_round 27 = .ok (.aload_n 0, 1) := by decide +kernel
theorem dX10_round_28 : decode cX10_round 28 = .ok (.getfield 56, 3) := by decide +kernel
theorem dX10_round_31 : decode cX10_round 31 = .ok (.getfield 322, 3) := by decide +kernel
theorem dX10_round_34 : decode cX10_round 34 = .ok (.goto 10, 3) := by decide +kernel
theorem dX10_round_37 : decode cX10_round 37 = .ok (.aload_n 0, 1) := by decide +kernel
theorem dX10_round_38 : decode cX10_round 38 = .ok (.getfield 56, 3) := by decide +kernel
theorem dX10_round_41 : decode cX10_round 41 = .ok (.getfield 325, 3) := by decide +kernel
theorem dX10_round_44 : decode cX10_round 44 = .ok (.ireturn, 1) := by decide +kernel
theorem dX10_by_0 : decode cX10_by 0 = .ok (.aload_n 0, 1) := by decide +kernel
theorem dX10_by_1 : decode cX10_by 1 = .ok (.iload_n 1, 1) := by decide +kernel
theorem dX10_by_2 : decode cX10_by 2 = .ok (.invokevirtual 315, 3) := by decide +kernel
theorem dX10_by_5 : decode cX10_by 5 = .ok (.aload_n 0, 1) := by decide +kernel
theorem dX10_by_6 : decode cX10_by 6 = .ok (.iload_n 2, 1) := by decide +kernel
theorem dX10_by_7 : decode cX10_by 7 = .ok (.iconst 1, 1) := by decide +kernel
theorem dX10_by_8 : decode cX10_by 8 = .ok (.if_icmp .lt 14, 3) := by decide +kernel
theorem dX10_by_11 : decode cX10_by 11 = .ok (.iload_n 2, 1) := by decide +kernel
theorem dX10_by_12 : decode cX10_by 12 = .ok (.sipush 999, 3) := by decide +kernel
theorem dX10_by_15 : decode cX10_by 15 = .ok (.if_icmp .gt 7, 3) := by decide +kernel
theorem dX10_by_18 : decode cX10_by 18 = .ok (.iconst 1, 1) := by decide +kernel
theorem dX10_by_19 : decode cX10_by 19 = .ok (.goto 4, 3) := by decide +kernel
theorem dX10_by_22 : decode cX10_by 22 = .ok (.iconst 0, 1) := by decide +kernel
theorem dX10_by_23 : decode cX10_by 23 = .ok (.invokevirtual 223, 3) := by decide +kernel
theorem dX10_by_26 : decode cX10_by 26 = .ok (.aload_n 0, 1) := by decide +kernel
theorem dX10_by_27 : decode cX10_by 27 = .ok (.getfield 56, 3) := by decide +kernel
theorem dX10_by_30 : decode cX10_by 30 = .ok (.aload_n 0, 1) := by decide +kernel
theorem dX10_by_31 : decode cX10_by 31 = .ok (.getfield 19, 3) := by decide +kernel
theorem dX10_by_34 : decode cX10_by 34 = .ok (.iload_n 1, 1) := by decide +kernel
theorem dX10_by_35 : decode cX10_by 35 = .ok (.aload_n 0, 1) := by decide +kernel
theorem dX10_by_36 : decode cX10_by 36 = .ok (.getfield 63, 3) := by decide +kernel
theorem dX10_by_39 : decode cX10_by 39 = .ok (.getfield 76, 3) := by decide +kernel
theorem dX10_by_42 : decode cX10_by 42 = .ok (.getfield 171, 3) := by decide +kernel
theorem dX10_by_45 : decode cX10_by 45 = .ok (.iload_n 2, 1) := by decide +kernel
theorem dX10_by_46 : decode cX10_by 46 = .ok (.invokevirtual 328, 3) := by decide +kernel
theorem dX10_by_49 : decode cX10_by 49 = .ok (.aload_n 0, 1) := by decide +kernel
theorem dX10_by_50 : decode cX10_by 50 = .ok (.getfield 56, 3) := by decide +kernel
theorem dX10_by_53 : decode cX10_by 53 = .ok (.getfield 322, 3) := by decide +kernel
theorem dX10_by_56 : decode cX10_by 56 = .ok (.iconst (-1), 1) := by decide +kernel
theorem dX10_by_57 : decode cX10_by 57 = .ok (.if_icmp .eq 7, 3) := by decide +kernel
theorem dX10_by_60 : decode cX10_by 60 = .ok (.iconst 1, 1) := by decide +kernel
theorem dX10_by_61 : decode cX10_by 61 = .ok (.goto 4, 3) := by decide +kernel
theorem dX10_by_64 : decode cX10_by 64 = .ok (.iconst 0, 1) := by decide +kernel
theorem dX10_by_65 : decode cX10_by 65 = .ok (.ireturn, 1) := by decide +kernel
theorem dX10_share_0 : decode cX10_share 0 = .ok (.aload_n 0, 1) := by decide +kernel
theorem dX10_share_1 : decode cX10_share 1 = .ok (.iload_n 1, 1) := by decide +kernel
theorem dX10_share_2 : decode cX10_share 2 = .ok (.iload_n 2, 1) := by decide +kernel
theorem dX10_share_3 : decode cX10_share 3 = .ok (.iload_n 3, 1) := by decide +kernel
theorem dX10_share_4 : decode cX10_share 4 = .ok (.invokevirtual 209, 3) := by decide +kernel
theorem dX10_share_7 : decode cX10_share 7 = .ok (.istore 5, 2) := by decide +kernel
theorem dX10_share_9 : decode cX10_share 9 = .ok (.aload_n 0, 1) := by decide +kernel
theorem dX10_share_10 : decode cX10_share 10 = .ok (.iload 4, 2) := by decide +kernel
theorem dX10_share_12 : decode cX10_share 12 = .ok (.ifCond .lt 15, 3) := by decide +kernel
theorem dX10_share_15 : decode cX10_share 15 = .ok (.iload 4, 2) := by decide +kernel
theorem dX10_share_17 : decode cX10_share 17 = .ok (.sipush 9999, 3) := by decide +kernel
theorem dX10_share_20 : decode cX10_share 20 = .ok (.if_icmp .gt 7, 3) := by decide +kernel
theorem dX10_share_23 : decode cX10_share 23 = .ok (.iconst 1, 1) := by decide +kernel
theorem dX10_share_24 : decode cX10_share 24 = .ok (.goto 4, 3) := by decide +kernel
theorem dX10_share_27 : decode cX10_share 27 = .ok (.iconst 0, 1) := by decide +kernel
theorem dX10_share_28 : decode cX10_share 28 = .ok (.invokevirtual 223, 3) := by decide +kernel
theorem dX10_share_31 : decode cX10_share 31 = .ok (.aload_n 0, 1) := by decide +kernel
theorem dX10_share_32 : decode cX10_share 32 = .ok (.getfield 49, 3) := by decide +kernel
theorem dX10_share_35 : decode cX10_share 35 = .ok (.aload_n 0, 1) := by decide +kernel
theorem dX10_share_36 : decode cX10_share 36 = .ok (.getfield 63, 3) := by decide +kernel
theorem dX10_share_39 : decode cX10_share 39 = .ok (.getfield 76, 3) := by decide +kernel
theorem dX10_share_42 : decode cX10_share 42 = .ok (.iload 5, 2) := by decide +kernel
theorem dX10_share_44 : decode cX10_share 44 = .ok (.iload 4, 2) := by decide +kernel
theorem dX10_share_46 : decode cX10_share 46 = .ok (.invokevirtual 332, 3) := by decide +kernel
theorem dX10_share_49 : decode cX10_share 49 = .ok (.ireturn, 1) := by decide +kernel
theorem dX10_ahead_0 : decode cX10_ahead 0 = .ok (.aload_n 0, 1) := by decide +kernel
theorem dX10_ahead_1 : decode cX10_ahead 1 = .ok (.iload_n 1, 1) := by decide +kernel
theorem dX10_ahead_2 : decode cX10_ahead 2 = .ok (.invokevirtual 186, 3) := by decide +kernel
theorem dX10_ahead_5 : decode cX10_ahead 5 = .ok (.aload_n 0, 1) := by decide +kernel
theorem dX10_ahead_6 : decode cX10_ahead 6 = .ok (.iload_n 2, 1) := by decide +kernel
theorem dX10_ahead_7 : decode cX10_ahead 7 = .ok (.ifCond .lt 13, 3) := by decide +kernel
theorem dX10_ahead_10 : decode cX10_ahead 10 = .ok (.iload_n 2, 1) := by decide +kernel
theorem dX10_ahead_11 : decode cX10_ahead 11 = .ok (.bipush 60, 2) := by decide +kernel
theorem dX10_ahead_13 : decode cX10_ahead 13 = .ok (.if_icmp .gt 7, 3) := by decide +kernel
theorem dX10_ahead_16 : decode cX10_ahead 16 = .ok (.iconst 1, 1) := by decide +kernel
theorem dX10_ahead_17 : decode cX10_ahead 17 = .ok (.goto 4, 3) := by decide +kernel
theorem dX10_ahead_20 : decode cX10_ahead 20 = .ok (.iconst 0, 1) := by decide +kernel
theorem dX10_ahead_21 : decode cX10_ahead 21 = .ok (.invokevirtual 223, 3) := by decide +kernel
theorem dX10_ahead_24 : decode cX10_ahead 24 = .ok (.aload_n 0, 1) := by decide +kernel
theorem dX10_ahead_25 : decode cX10_ahead 25 = .ok (.iload_n 3, 1) := by decide +kernel
theorem dX10_ahead_26 : decode cX10_ahead 26 = .ok (.iconst 2, 1) := by decide +kernel
theorem dX10_ahead_27 : decode cX10_ahead 27 = .ok (.invokevirtual 162, 3) := by decide +kernel
theorem dX10_ahead_30 : decode cX10_ahead 30 = .ok (.aload_n 0, 1) := by decide +kernel
theorem dX10_ahead_31 : decode cX10_ahead 31 = .ok (.getfield 70, 3) := by decide +kernel
theorem dX10_ahead_34 : decode cX10_ahead 34 = .ok (.aload_n 0, 1) := by decide +kernel
theorem dX10_ahead_35 : decode cX10_ahead 35 = .ok (.getfield 63, 3) := by decide +kernel
theorem dX10_ahead_38 : decode cX10_ahead 38 = .ok (.getfield 76, 3) := by decide +kernel
theorem dX10_ahead_41 : decode cX10_ahead 41 = .ok (.aload_n 0, 1) := by decide +kernel
theorem dX10_ahead_42 : decode cX10_ahead 42 = .ok (.getfield 19, 3) := by decide +kernel
theorem dX10_ahead_45 : decode cX10_ahead 45 = .ok (.aload_n 0, 1) := by decide +kernel
theorem dX10_ahead_46 : decode cX10_ahead 46 = .ok (.getfield 29, 3) := by decide +kernel
theorem dX10_ahead_49 : decode cX10_ahead 49 = .ok (.iload_n 2, 1) := by decide +kernel
theorem dX10_ahead_50 : decode cX10_ahead 50 = .ok (.invokevirtual 335, 3) := by decide +kernel
theorem dX10_ahead_53 : decode cX10_ahead 53 = .ok (.aload_n 0, 1) := by decide +kernel
theorem dX10_ahead_54 : decode cX10_ahead 54 = .ok (.getfield 70, 3) := by decide +kernel
theorem dX10_ahead_57 : decode cX10_ahead 57 = .ok (.getfield 339, 3) := by decide +kernel
theorem dX10_ahead_60 : decode cX10_ahead 60 = .ok (.astore 4, 2) := by decide +kernel
theorem dX10_ahead_62 : decode cX10_ahead 62 = .ok (.iload_n 3, 1) := by decide +kernel
theorem dX10_ahead_63 : decode cX10_ahead 63 = .ok (.lookupswitch 52 #[(0, 25), (1, 32)], 25) := by decide +kernel
theorem dX10_ahead_88 : decode cX10_ahead 88 = .ok (.aload 4, 2) := by decide +kernel
theorem dX10_ahead_90 : decode cX10_ahead 90 = .ok (.iload_n 1, 1) := by decide +kernel
theorem dX10_ahead_91 : decode cX10_ahead 91 = .ok (.invokevirtual 201, 3) := by decide +kernel
theorem dX10_ahead_94 : decode cX10_ahead 94 = .ok (.ireturn, 1) := by decide +kernel
theorem dX10_ahead_95 : decode cX10_ahead 95 = .ok (.aload_n 0, 1) := by decide +kernel
theorem dX10_ahead_96 : decode cX10_ahead 96 = .ok (.getfield 49, 3) := by decide +kernel
theorem dX10_ahead_99 : decode cX10_ahead 99 = .ok (.aload 4, 2) := by decide +kernel
theorem dX10_ahead_101 : decode cX10_ahead 101 = .ok (.iload_n 1, 1) := by decide +kernel
theorem dX10_ahead_102 : decode cX10_ahead 102 = .ok (.aload_n 0, 1) := by decide +kernel
theorem dX10_ahead_103 : decode cX10_ahead 103 = .ok (.getfield 19, 3) := by decide +kernel
theorem dX10_ahead_106 : decode cX10_ahead 106 = .ok (.getfield 237, 3) := by decide +kernel
theorem dX10_ahead_109 : decode cX10_ahead 109 = .ok (.iload_n 1, 1) := by decide +kernel
theorem dX10_ahead_110 : decode cX10_ahead 110 = .ok (.iaload, 1) := by decide +kernel
theorem dX10_ahead_111 : decode cX10_ahead 111 = .ok (.invokevirtual 272, 3) := by decide +kernel
theorem dX10_ahead_114 : decode cX10_ahead 114 = .ok (.ireturn, 1) := by decide +kernel
theorem dX10_ahead_115 : decode cX10_ahead 115 = .ok (.aload_n 0, 1) := by decide +kernel
theorem dX10_ahead_116 : decode cX10_ahead 116 = .ok (.getfield 49, 3) := by decide +kernel
theorem dX10_ahead_119 : decode cX10_ahead 119 = .ok (.aload 4, 2) := by decide +kernel
theorem dX10_ahead_121 : decode cX10_ahead 121 = .ok (.iload_n 1, 1) := by decide +kernel
theorem dX10_ahead_122 : decode cX10_ahead 122 = .ok (.invokevirtual 275, 3) := by decide +kernel
theorem dX10_ahead_125 : decode cX10_ahead 125 = .ok (.ireturn, 1) := by decide +kernel
theorem dX10_decade_0 : decode cX10_decade 0 = .ok (.aload_n 0, 1) := by decide +kernel
theorem dX10_decade_1 : decode cX10_decade 1 = .ok (.iload_n 2, 1) := by decide +kernel
theorem dX10_decade_2 : decode cX10_decade 2 = .ok (.iload_n 3, 1) := by decide +kernel
theorem dX10_decade_3 : decode cX10_decade 3 = .ok (.invokevirtual 342, 3) := by decide +kernel
theorem dX10_decade_6 : decode cX10_decade 6 = .ok (.aload_n 0, 1) := by decide +kernel
theorem dX10_decade_7 : decode cX10_decade 7 = .ok (.iload 4, 2) := by decide +kernel
theorem dX10_decade_9 : decode cX10_decade 9 = .ok (.iconst 2, 1) := by decide +kernel
theorem dX10_decade_10 : decode cX10_decade 10 = .ok (.invokevirtual 162, 3) := by decide +kernel
theorem dX10_decade_13 : decode cX10_decade 13 = .ok (.aload_n 0, 1) := by decide +kernel
theorem dX10_decade_14 : decode cX10_decade 14 = .ok (.getfield 70, 3) := by decide +kernel
theorem dX10_decade_17 : decode cX10_decade 17 = .ok (.aload_n 0, 1) := by decide +kernel
theorem dX10_decade_18 : decode cX10_decade 18 = .ok (.getfield 63, 3) := by decide +kernel
theorem dX10_decade_21 : decode cX10_decade 21 = .ok (.getfield 76, 3) := by decide +kernel
theorem dX10_decade_24 : decode cX10_decade 24 = .ok (.aload_n 0, 1) := by decide +kernel
theorem dX10_decade_25 : decode cX10_decade 25 = .ok (.getfield 19, 3) := by decide +kernel
theorem dX10_decade_28 : decode cX10_decade 28 = .ok (.aload_n 0, 1) := by decide +kernel
theorem dX10_decade_29 : decode cX10_decade 29 = .ok (.getfield 29, 3) := by decide +kernel
theorem dX10_decade_32 : decode cX10_decade 32 = .ok (.iload_n 3, 1) := by decide +kernel
theorem dX10_decade_33 : decode cX10_decade 33 = .ok (.invokevirtual 335, 3) := by decide +kernel
theorem dX10_decade_36 : decode cX10_decade 36 = .ok (.aload_n 0, 1) := by decide +kernel
theorem dX10_decade_37 : decode cX10_decade 37 = .ok (.getfield 70, 3) := by decide +kernel
theorem dX10_decade_40 : decode cX10_decade 40 = .ok (.iload_n 1, 1) := by decide +kernel
theorem dX10_decade_41 : decode cX10_decade 41 = .ok (.iload_n 2, 1) := by decide +kernel
theorem dX10_decade_42 : decode cX10_decade 42 = .ok (.iload_n 3, 1) := by decide +kernel
theorem dX10_decade_43 : decode cX10_decade 43 = .ok (.aload_n 0, 1) := by decide +kernel
theorem dX10_decade_44 : decode cX10_decade 44 = .ok (.getfield 19, 3) := by decide +kernel
theorem dX10_decade_47 : decode cX10_decade 47 = .ok (.getfield 129, 3) := by decide +kernel
theorem dX10_decade_50 : decode cX10_decade 50 = .ok (.aload_n 0, 1) := by decide +kernel
theorem dX10_decade_51 : decode cX10_decade 51 = .ok (.getfield 63, 3) := by decide +kernel
theorem dX10_decade_54 : decode cX10_decade 54 = .ok (.getfield 76, 3) := by decide +kernel
theorem dX10_decade_57 : decode cX10_decade 57 = .ok (.getfield 345, 3) := by decide +kernel
theorem dX10_decade_60 : decode cX10_decade 60 = .ok (.invokevirtual 348, 3) := by decide +kernel
theorem dX10_decade_63 : decode cX10_decade 63 = .ok (.iload 4, 2) := by decide +kernel
theorem dX10_decade_65 : decode cX10_decade 65 = .ok (.lookupswitch 46 #[(0, 27), (1, 35)], 27) := by decide +kernel
theorem dX10_decade_92 : decode cX10_decade 92 = .ok (.aload_n 0, 1) := by decide +kernel
theorem dX10_decade_93 : decode cX10_decade 93 = .ok (.getfield 70, 3) := by decide +kernel
theorem dX10_decade_96 : decode cX10_decade 96 = .ok (.getfield 352, 3) := by decide +kernel
theorem dX10_decade_99 : decode cX10_decade 99 = .ok (.ireturn, 1) := by decide +kernel
theorem dX10_decade_100 : decode cX10_decade 100 = .ok (.aload_n 0, 1) := by decide +kernel
theorem dX10_decade_101 : decode cX10_decade 101 = .ok (.getfield 70, 3) := by decide +kernel
theorem dX10_decade_104 : decode cX10_decade 104 = .ok (.getfield 355, 3) := by decide +kernel
theorem dX10_decade_107 : decode cX10_decade 107 = .ok (.invokestatic 358, 3) := by decide +kernel
theorem dX10_decade_110 : decode cX10_decade 110 = .ok (.ireturn, 1) := by decide +kernel
theorem dX10_decade_111 : decode cX10_decade 111 = .ok (.aload_n 0, 1) := by decide +kernel
theorem dX10_decade_112 : decode cX10_decade 112 = .ok (.getfield 70, 3) := by decide +kernel
theorem dX10_decade_115 : decode cX10_decade 115 = .ok (.getfield 363, 3) := by decide +kernel
theorem dX10_decade_118 : decode cX10_decade 118 = .ok (.ireturn, 1) := by decide +kernel
theorem dX10_span_0 : decode cX10_span 0 = .ok (.aload_n 0, 1) := by decide +kernel
theorem dX10_span_1 : decode cX10_span 1 = .ok (.iload_n 2, 1) := by decide +kernel
theorem dX10_span_2 : decode cX10_span 2 = .ok (.iconst 1, 1) := by decide +kernel
theorem dX10_span_3 : decode cX10_span 3 = .ok (.if_icmp .lt 13, 3) := by decide +kernel
theorem dX10_span_6 : decode cX10_span 6 = .ok (.iload_n 2, 1) := by decide +kernel
theorem dX10_span_7 : decode cX10_span 7 = .ok (.bipush 20, 2) := by decide +kernel
theorem dX10_span_9 : decode cX10_span 9 = .ok (.if_icmp .gt 7, 3) := by decide +kernel
theorem dX10_span_12 : decode cX10_span 12 = .ok (.iconst 1, 1) := by decide +kernel
theorem dX10_span_13 : decode cX10_span 13 = .ok (.goto 4, 3) := by decide +kernel
theorem dX10_span_16 : decode cX10_span 16 = .ok (.iconst 0, 1) := by decide +kernel
theorem dX10_span_17 : decode cX10_span 17 = .ok (.invokevirtual 223, 3) := by decide +kernel
theorem dX10_span_20 : decode cX10_span 20 = .ok (.aload_n 0, 1) := by decide +kernel
theorem dX10_span_21 : decode cX10_span 21 = .ok (.iload_n 3, 1) := by decide +kernel
theorem dX10_span_22 : decode cX10_span 22 = .ok (.iload 4, 2) := by decide +kernel
theorem dX10_span_24 : decode cX10_span 24 = .ok (.invokevirtual 342, 3) := by decide +kernel
theorem dX10_span_27 : decode cX10_span 27 = .ok (.aload_n 0, 1) := by decide +kernel
theorem dX10_span_28 : decode cX10_span 28 = .ok (.iload 5, 2) := by decide +kernel
theorem dX10_span_30 : decode cX10_span 30 = .ok (.iconst 2, 1) := by decide +kernel
theorem dX10_span_31 : decode cX10_span 31 = .ok (.invokevirtual 162, 3) := by decide +kernel
theorem dX10_span_34 : decode cX10_span 34 = .ok (.aload_n 0, 1) := by decide +kernel
theorem dX10_span_35 : decode cX10_span 35 = .ok (.iload 6, 2) := by decide +kernel
theorem dX10_span_37 : decode cX10_span 37 = .ok (.ifCond .lt 19, 3) := by decide +kernel
theorem dX10_span_40 : decode cX10_span 40 = .ok (.iload 6, 2) := by decide +kernel
theorem dX10_span_42 : decode cX10_span 42 = .ok (.aload_n 0, 1) := by decide +kernel
theorem dX10_span_43 : decode cX10_span 43 = .ok (.getfield 19, 3) := by decide +kernel
theorem dX10_span_46 : decode cX10_span 46 = .ok (.getfield 129, 3) := by decide +kernel
theorem dX10_span_49 : decode cX10_span 49 = .ok (.if_icmp .ge 7, 3) := by decide +kernel
theorem dX10_span_52 : decode cX10_span 52 = .ok (.iconst 1, 1) := by decide +kernel
theorem dX10_span_53 : decode cX10_span 53 = .ok (.goto 4, 3) := by decide +kernel
theorem dX10_span_56 : decode cX10_span 56 = .ok (.iconst 0, 1) := by decide +kernel
theorem dX10_span_57 : decode cX10_span 57 = .ok (.invokevirtual 223, 3) := by decide +kernel
theorem dX10_span_60 : decode cX10_span 60 = .ok (.aload_n 0, 1) := by decide +kernel
theorem dX10_span_61 : decode cX10_span 61 = .ok (.getfield 70, 3) := by decide +kernel
theorem dX10_span_64 : decode cX10_span 64 = .ok (.aload_n 0, 1) := by decide +kernel
theorem dX10_span_65 : decode cX10_span 65 = .ok (.getfield 63, 3) := by decide +kernel
theorem dX10_span_68 : decode cX10_span 68 = .ok (.getfield 76, 3) := by decide +kernel
theorem dX10_span_71 : decode cX10_span 71 = .ok (.aload_n 0, 1) := by decide +kernel
theorem dX10_span_72 : decode cX10_span 72 = .ok (.getfield 19, 3) := by decide +kernel
theorem dX10_span_75 : decode cX10_span 75 = .ok (.aload_n 0, 1) := by decide +kernel
theorem dX10_span_76 : decode cX10_span 76 = .ok (.getfield 29, 3) := by decide +kernel
theorem dX10_span_79 : decode cX10_span 79 = .ok (.iload 4, 2) := by decide +kernel
theorem dX10_span_81 : decode cX10_span 81 = .ok (.invokevirtual 335, 3) := by decide +kernel
theorem dX10_span_84 : decode cX10_span 84 = .ok (.sipush 2400, 3) := by decide +kernel
theorem dX10_span_87 : decode cX10_span 87 = .ok (.istore 7, 2) := by decide +kernel
theorem dX10_span_89 : decode cX10_span 89 = .ok (.iconst 0, 1) := by decide +kernel
theorem dX10_span_90 : decode cX10_span 90 = .ok (.istore 8, 2) := by decide +kernel
theorem dX10_span_92 : decode cX10_span 92 = .ok (.iconst 0, 1) := by decide +kernel
theorem dX10_span_93 : decode cX10_span 93 = .ok (.istore 9, 2) := by decide +kernel
theorem dX10_span_95 : decode cX10_span 95 = .ok (.iconst 0, 1) := by decide +kernel
theorem dX10_span_96 : decode cX10_span 96 = .ok (.istore 10, 2) := by decide +kernel
theorem dX10_span_98 : decode cX10_span 98 = .ok (.iload 10, 2) := by decide +kernel
theorem dX10_span_100 : decode cX10_span 100 = .ok (.iload_n 2, 1) := by decide +kernel
theorem dX10_span_101 : decode cX10_span 101 = .ok (.if_icmp .ge 87, 3) := by decide +kernel
theorem dX10_span_104 : decode cX10_span 104 = .ok (.aload_n 0, 1) := by decide +kernel
theorem dX10_span_105 : decode cX10_span 105 = .ok (.getfield 70, 3) := by decide +kernel
theorem dX10_span_108 : decode cX10_span 108 = .ok (.iload_n 1, 1) := by decide +kernel
theorem dX10_span_109 : decode cX10_span 109 = .ok (.iload 10, 2) := by decide +kernel
theorem dX10_span_111 : decode cX10_span 111 = .ok (.iadd, 1) := by decide +kernel
theorem dX10_span_112 : decode cX10_span 112 = .ok (.iload_n 3, 1) := by decide +kernel
theorem dX10_span_113 : decode cX10_span 113 = .ok (.iload 4, 2) := by decide +kernel
theorem dX10_span_115 : decode cX10_span 115 = .ok (.aload_n 0, 1) := by decide +kernel
theorem dX10_span_116 : decode cX10_span 116 = .ok (.getfield 19, 3) := by decide +kernel
theorem dX10_span_119 : decode cX10_span 119 = .ok (.getfield 129, 3) := by decide +kernel
theorem dX10_span_122 : decode cX10_span 122 = .ok (.aload_n 0, 1) := by decide +kernel
theorem dX10_span_123 : decode cX10_span 123 = .ok (.getfield 63, 3) := by decide +kernel
theorem dX10_span_126 : decode cX10_span 126 = .ok (.getfield 76, 3) := by decide +kernel
theorem dX10_span_129 : decode cX10_span 129 = .ok (.getfield 345, 3) := by decide +kernel
theorem dX10_span_132 : decode cX10_span 132 = .ok (.invokevirtual 348, 3) := by decide +kernel
theorem dX10_span_135 : decode cX10_span 135 = .ok (.iload 7, 2) := by decide +kernel
theorem dX10_span_137 : decode cX10_span 137 = .ok (.aload_n 0, 1) := by decide +kernel
theorem dX10_span_138 : decode cX10_span 138 = .ok (.getfield 70, 3) := by decide +kernel
theorem dX10_span_141 : decode cX10_span 141 = .ok (.getfield 352, 3) := by decide +kernel
theorem dX10_span_144 : decode cX10_span 144 = .ok (.invokestatic 366, 3) := by decide +kernel
theorem dX10_span_147 : decode cX10_span 147 = .ok (.istore 7, 2) := by decide +kernel
theorem dX10_span_149 : decode cX10_span 149 = .ok (.iload 8, 2) := by decide +kernel
theorem dX10_span_151 : decode cX10_span 151 = .ok (.aload_n 0, 1) := by decide +kernel
theorem dX10_span_152 : decode cX10_span 152 = .ok (.getfield 70, 3) := by decide +kernel
theorem dX10_span_155 : decode cX10_span 155 = .ok (.getfield 352, 3) := by decide +kernel
theorem dX10_span_158 : decode cX10_span 158 = .ok (.invokestatic 371, 3) := by decide +kernel
theorem dX10_span_161 : decode cX10_span 161 = .ok (.istore 8, 2) := by decide +kernel
theorem dX10_span_163 : decode cX10_span 163 = .ok (.iload 9, 2) := by decide +kernel
theorem dX10_span_165 : decode cX10_span 165 = .ok (.iconst 1, 1) := by decide +kernel
theorem dX10_span_166 : decode cX10_span 166 = .ok (.aload_n 0, 1) := by decide +kernel
theorem dX10_span_167 : decode cX10_span 167 = .ok (.getfield 70, 3) := by decide +kernel
theorem dX10_span_170 : decode cX10_span 170 = .ok (.getfield 355, 3) := by decide +kernel
theorem dX10_span_173 : decode cX10_span 173 = .ok (.iload 6, 2) := by decide +kernel
theorem dX10_span_175 : decode cX10_span 175 = .ok (.ishr, 1) := by decide +kernel
theorem dX10_span_176 : decode cX10_span 176 = .ok (.iconst 1, 1) := by decide +kernel
theorem dX10_span_177 : decode cX10_span 177 = .ok (.iand, 1) := by decide +kernel
theorem dX10_span_178 : decode cX10_span 178 = .ok (.isub, 1) := by decide +kernel
theorem dX10_span_179 : decode cX10_span 179 = .ok (.iadd, 1) := by decide +kernel
theorem dX10_span_180 : decode cX10_span 180 = .ok (.istore 9, 2) := by decide +kernel
theorem dX10_span_182 : decode cX10_span 182 = .ok (.iinc 10 1, 3) := by decide +kernel
theorem dX10_span_185 : decode cX10_span 185 = .ok (.goto (-87), 3) := by decide +kernel
theorem dX10_span_188 : decode cX10_span 188 = .ok (.iload 5, 2) := by decide +kernel
theorem dX10_span_190 : decode cX10_span 190 = .ok (.ifCond .ne 8, 3) := by decide +kernel
theorem dX10_span_193 : decode cX10_span 193 = .ok (.iload 7, 2) := by decide +kernel
theorem dX10_span_195 : decode cX10_span 195 = .ok (.goto 16, 3) := by decide +kernel
theorem dX10_span_198 : decode cX10_span 198 = .ok (.iload 5, 2) := by decide +kernel
theorem dX10_span_200 : decode cX10_span 200 = .ok (.iconst 1, 1) := by decide +kernel
theorem dX10_span_201 : decode cX10_span 201 = .ok (.if_icmp .ne 8, 3) := by decide +kernel
theorem dX10_span_204 : decode cX10_span 204 = .ok (.iload 8, 2) := by decide +kernel
theorem dX10_span_206 : decode cX10_span 206 = .ok (.goto 5, 3) := by decide +kernel
theorem dX10_span_209 : decode cX10_span 209 = .ok (.iload 9, 2) := by decide +kernel
theorem dX10_span_211 : decode cX10_span 211 = .ok (.ireturn, 1) := by decide +kernel
theorem dX10_image_0 : decode cX10_image 0 = .ok (.aload_n 0, 1) := by decide +kernel
theorem dX10_image_1 : decode cX10_image 1 = .ok (.getfield 123, 3) := by decide +kernel
theorem dX10_image_4 : decode cX10_image 4 = .ok (.iconst 2, 1) := by decide +kernel
theorem dX10_image_5 : decode cX10_image 5 = .ok (.if_icmp .lt 5, 3) := by decide +kernel
theorem dX10_image_8 : decode cX10_image 8 = .ok (.iconst (-1), 1) := by decide +kernel
theorem dX10_image_9 : decode cX10_image 9 = .ok (.ireturn, 1) := by decide +kernel
theorem dX10_image_10 : decode cX10_image 10 = .ok (.aload_n 0, 1) := by decide +kernel
theorem dX10_image_11 : decode cX10_image 11 = .ok (.getfield 87, 3) := by decide +kernel
theorem dX10_image_14 : decode cX10_image 14 = .ok (.aload_n 0, 1) := by decide +kernel
theorem dX10_image_15 : decode cX10_image 15 = .ok (.getfield 123, 3) := by decide +kernel
theorem dX10_image_18 : decode cX10_image 18 = .ok (.aaload, 1) := by decide +kernel
theorem dX10_image_19 : decode cX10_image 19 = .ok (.astore_n 1, 1) := by decide +kernel
theorem dX10_image_20 : decode cX10_image 20 = .ok (.aload_n 1, 1) := by decide +kernel
theorem dX10_image_21 : decode cX10_image 21 = .ok (.ifnonnull 21, 3) := by decide +kernel
theorem dX10_image_24 : decode cX10_image 24 = .ok (.new 60, 3) := by decide +kernel
theorem dX10_image_27 : decode cX10_image 27 = .ok (.dup, 1) := by decide +kernel
theorem dX10_image_28 : decode cX10_image 28 = .ok (.invokespecial 62, 3) := by decide +kernel
theorem dX10_image_31 : decode cX10_image 31 = .ok (.astore_n 1, 1) := by decide +kernel
theorem dX10_image_32 : decode cX10_image 32 = .ok (.aload_n 0, 1) := by decide +kernel
theorem dX10_image_33 : decode cX10_image 33 = .ok (.getfield 87, 3) := by decide +kernel
theorem dX10_image_36 : decode cX10_image 36 = .ok (.aload_n 0, 1) := by decide +kernel
theorem dX10_image_37 : decode cX10_image 37 = .ok (.getfield 123, 3) := by decide +kernel
theorem dX10_image_40 : decode cX10_image 40 = .ok (.aload_n 1, 1) := by decide +kernel
theorem dX10_image_41 : decode cX10_image 41 = .ok (.aastore, 1) := by decide +kernel
theorem dX10_image_42 : decode cX10_image 42 = .ok (.aload_n 1, 1) := by decide +kernel
theorem dX10_image_43 : decode cX10_image 43 = .ok (.aload_n 0, 1) := by decide +kernel
theorem dX10_image_44 : decode cX10_image 44 = .ok (.getfield 63, 3) := by decide +kernel
theorem dX10_image_47 : decode cX10_image 47 = .ok (.invokevirtual 374, 3) := by decide +kernel
theorem dX10_image_50 : decode cX10_image 50 = .ok (.aload_n 0, 1) := by decide +kernel
theorem dX10_image_51 : decode cX10_image 51 = .ok (.dup, 1) := by decide +kernel
theorem dX10_image_52 : decode cX10_image 52 = .ok (.getfield 123, 3) := by decide +kernel
theorem dX10_image_55 : decode cX10_image 55 = .ok (.iconst 1, 1) := by decide +kernel
theorem dX10_image_56 : decode cX10_image 56 = .ok (.iadd, 1) := by decide +kernel
theorem dX10_image_57 : decode cX10_image 57 = .ok (.putfield 123, 3) := by decide +kernel
theorem dX10_image_60 : decode cX10_image 60 = .ok (.aload_n 0, 1) := by decide +kernel
theorem dX10_image_61 : decode cX10_image 61 = .ok (.getfield 123, 3) := by decide +kernel
theorem dX10_image_64 : decode cX10_image 64 = .ok (.ireturn, 1) := by decide +kernel
theorem dX10_restore_0 : decode cX10_restore 0 = .ok (.aload_n 0, 1) := by decide +kernel
theorem dX10_restore_1 : decode cX10_restore 1 = .ok (.getfield 123, 3) := by decide +kernel
theorem dX10_restore_4 : decode cX10_restore 4 = .ok (.ifCond .ne 5, 3) := by decide +kernel
theorem dX10_restore_7 : decode cX10_restore 7 = .ok (.iconst (-1), 1) := by decide +kernel
theorem dX10_restore_8 : decode cX10_restore 8 = .ok (.ireturn, 1) := by decide +kernel
theorem dX10_restore_9 : decode cX10_restore 9 = .ok (.aload_n 0, 1) := by decide +kernel
theorem dX10_restore_10 : decode cX10_restore 10 = .ok (.dup, 1) := by decide +kernel
theorem dX10_restore_11 : decode cX10_restore 11 = .ok (.getfield 123, 3) := by decide +kernel
theorem dX10_restore_14 : decode cX10_restore 14 = .ok (.iconst 1, 1) := by decide +kernel
theorem dX10_restore_15 : decode cX10_restore 15 = .ok (.isub, 1) := by decide +kernel
theorem dX10_restore_16 : decode cX10_restore 16 = .ok (.putfield 123, 3) := by decide +kernel
theorem dX10_restore_19 : decode cX10_restore 19 = .ok (.aload_n 0, 1) := by decide +kernel
theorem dX10_restore_20 : decode cX10_restore 20 = .ok (.getfield 87, 3) := by decide +kernel
theorem dX10_restore_23 : decode cX10_restore 23 = .ok (.aload_n 0, 1) := by decide +kernel
theorem dX10_restore_24 : decode cX10_restore 24 = .ok (.getfield 123, 3) := by decide +kernel
theorem dX10_restore_27 : decode cX10_restore 27 = .ok (.aaload, 1) := by decide +kernel
theorem dX10_restore_28 : decode cX10_restore 28 = .ok (.astore_n 1, 1) := by decide +kernel
theorem dX10_restore_29 : decode cX10_restore 29 = .ok (.aload_n 1, 1) := by decide +kernel
theorem dX10_restore_30 : decode cX10_restore 30 = .ok (.ifnull 11, 3) := by decide +kernel
theorem dX10_restore_33 : decode cX10_restore 33 = .ok (.aload_n 0, 1) := by decide +kernel
theorem dX10_restore_34 : decode cX10_restore 34 = .ok (.getfield 63, 3) := by decide +kernel
theorem dX10_restore_37 : decode cX10_restore 37 = .ok (.aload_n 1, 1) := by decide +kernel
theorem dX10_restore_38 : decode cX10_restore 38 = .ok (.invokevirtual 374, 3) := by decide +kernel
theorem dX10_restore_41 : decode cX10_restore 41 = .ok (.aload_n 0, 1) := by decide +kernel
theorem dX10_restore_42 : decode cX10_restore 42 = .ok (.iconst 0, 1) := by decide +kernel
theorem dX10_restore_43 : decode cX10_restore 43 = .ok (.putfield 126, 3) := by decide +kernel
theorem dX10_restore_46 : decode cX10_restore 46 = .ok (.aload_n 0, 1) := by decide +kernel
theorem dX10_restore_47 : decode cX10_restore 47 = .ok (.getfield 123, 3) := by decide +kernel
theorem dX10_restore_50 : decode cX10_restore 50 = .ok (.ireturn, 1) := by decide +kernel
theorem dX10_status_0 : decode cX10_status 0 = .ok (.iload_n 1, 1) := by decide +kernel
theorem dX10_status_1 : decode cX10_status 1 = .ok (.ifCond .lt 17, 3) := by decide +kernel
theorem dX10_status_4 : decode cX10_status 4 = .ok (.iload_n 1, 1) := by decide +kernel
theorem dX10_status_5 : decode cX10_status 5 = .ok (.iconst 2, 1) := by decide +kernel
theorem dX10_status_6 : decode cX10_status 6 = .ok (.if_icmp .gt 12, 3) := by decide +kernel
theorem dX10_status_9 : decode cX10_status 9 = .ok (.aload_n 0, 1) := by decide +kernel
theorem dX10_status_10 : decode cX10_status 10 = .ok (.getfield 91, 3) := by decide +kernel
theorem dX10_status_13 : decode cX10_status 13 = .ok (.iload_n 1, 1) := by decide +kernel
theorem dX10_status_14 : decode cX10_status 14 = .ok (.iaload, 1) := by decide +kernel
theorem dX10_status_15 : decode cX10_status 15 = .ok (.goto 4, 3) := by decide +kernel
theorem dX10_status_18 : decode cX10_status 18 = .ok (.iconst (-1), 1) := by decide +kernel
theorem dX10_status_19 : decode cX10_status 19 = .ok (.ireturn, 1) := by decide +kernel
theorem dX10_count_0 : decode cX10_count 0 = .ok (.iload_n 1, 1) := by decide +kernel
theorem dX10_count_1 : decode cX10_count 1 = .ok (.tableswitch 48 0 2 #[27, 32, 40], 27) := by decide +kernel
theorem dX10_count_28 : decode cX10_count 28 = .ok (.aload_n 0, 1) := by decide +kernel
theorem dX10_count_29 : decode cX10_count 29 = .ok (.getfield 123, 3) := by decide +kernel
theorem dX10_count_32 : decode cX10_count 32 = .ok (.ireturn, 1) := by decide +kernel
theorem dX10_count_33 : decode cX10_count 33 = .ok (.aload_n 0, 1) := by decide +kernel
theorem dX10_count_34 : decode cX10_count 34 = .ok (.getfield 10, 3) := by decide +kernel
theorem dX10_count_37 : decode cX10_count 37 = .ok (.getfield 103, 3) := by decide +kernel
theorem dX10_count_40 : decode cX10_count 40 = .ok (.ireturn, 1) := by decide +kernel
theorem dX10_count_41 : decode cX10_count 41 = .ok (.aload_n 0, 1) := by decide +kernel
theorem dX10_count_42 : decode cX10_count 42 = .ok (.getfield 63, 3) := by decide +kernel
theorem dX10_count_45 : decode cX10_count 45 = .ok (.getfield 133, 3) := by decide +kernel
theorem dX10_count_48 : decode cX10_count 48 = .ok (.ireturn, 1) := by decide +kernel
theorem dX10_count_49 : decode cX10_count 49 = .ok (.iconst (-1), 1) := by decide +kernel
theorem dX10_count_50 : decode cX10_count 50 = .ok (.ireturn, 1) := by decide +kernel
theorem dX10_beginText_0 : decode cX10_beginText 0 = .ok (.aload_n 0, 1) := by decide +kernel
theorem dX10_beginText_1 : decode cX10_beginText 1 = .ok (.iload_n 1, 1) := by decide +kernel
theorem dX10_beginText_2 : decode cX10_beginText 2 = .ok (.ifCond .lt 23, 3) := by decide +kernel
theorem dX10_beginText_5 : decode cX10_beginText 5 = .ok (.iload_n 1, 1) := by decide +kernel
theorem dX10_beginText_6 : decode cX10_beginText 6 = .ok (.aload_n 0, 1) := by decide +kernel
theorem dX10_beginText_7 : decode cX10_beginText 7 = .ok (.getfield 10, 3) := by decide +kernel
theorem dX10_beginText_10 : decode cX10_beginText 10 = .ok (.getfield 103, 3) := by decide +kernel
theorem dX10_beginText_13 : decode cX10_beginText 13 = .ok (.if_icmp .gt 12, 3) := by decide +kernel
theorem dX10_beginText_16 : decode cX10_beginText 16 = .ok (.iload_n 1, 1) := by decide +kernel
theorem dX10_beginText_17 : decode cX10_beginText 17 = .ok (.iload_n 2, 1) := by decide +kernel
theorem dX10_beginText_18 : decode cX10_beginText 18 = .ok (.if_icmp .gt 7, 3) := by decide +kernel
theorem dX10_beginText_21 : decode cX10_beginText 21 = .ok (.iconst 1, 1) := by decide +kernel
theorem dX10_beginText_22 : decode cX10_beginText 22 = .ok (.goto 4, 3) := by decide +kernel
theorem dX10_beginText_25 : decode cX10_beginText 25 = .ok (.iconst 0, 1) := by decide +kernel
theorem dX10_beginText_26 : decode cX10_beginText 26 = .ok (.invokevirtual 223, 3) := by decide +kernel
theorem dX10_beginText_29 : decode cX10_beginText 29 = .ok (.aload_n 0, 1) := by decide +kernel
theorem dX10_beginText_30 : decode cX10_beginText 30 = .ok (.getfield 10, 3) := by decide +kernel
theorem dX10_beginText_33 : decode cX10_beginText 33 = .ok (.iload_n 1, 1) := by decide +kernel
theorem dX10_beginText_34 : decode cX10_beginText 34 = .ok (.invokevirtual 378, 3) := by decide +kernel
theorem dX10_beginText_37 : decode cX10_beginText 37 = .ok (.return_, 1) := by decide +kernel
theorem dX10_orderState_0 : decode cX10_orderState 0 = .ok (.aload_n 0, 1) := by decide +kernel
theorem dX10_orderState_1 : decode cX10_orderState 1 = .ok (.getfield 63, 3) := by decide +kernel
theorem dX10_orderState_4 : decode cX10_orderState 4 = .ok (.getfield 76, 3) := by decide +kernel
theorem dX10_orderState_7 : decode cX10_orderState 7 = .ok (.astore_n 2, 1) := by decide +kernel
theorem dX10_orderState_8 : decode cX10_orderState 8 = .ok (.aload_n 0, 1) := by decide +kernel
theorem dX10_orderState_9 : decode cX10_orderState 9 = .ok (.getfield 19, 3) := by decide +kernel
theorem dX10_orderState_12 : decode cX10_orderState 12 = .ok (.iload_n 1, 1) := by decide +kernel
theorem dX10_orderState_13 : decode cX10_orderState 13 = .ok (.invokevirtual 257, 3) := by decide +kernel
theorem dX10_orderState_16 : decode cX10_orderState 16 = .ok (.istore_n 3, 1) := by decide +kernel
theorem dX10_orderState_17 : decode cX10_orderState 17 = .ok (.aload_n 0, 1) := by decide +kernel
theorem dX10_orderState_18 : decode cX10_orderState 18 = .ok (.getfield 19, 3) := by decide +kernel
theorem dX10_orderState_21 : decode cX10_orderState 21 = .ok (.iload_n 1, 1) := by decide +kernel
theorem dX10_orderState_22 : decode cX10_orderState 22 = .ok (.iconst 3, 1) := by decide +kernel
theorem dX10_orderState_23 : decode cX10_orderState 23 = .ok (.invokevirtual 254, 3) := by decide +kernel
theorem dX10_orderState_26 : decode cX10_orderState 26 = .ok (.istore 4, 2) := by decide +kernel
theorem dX10_orderState_28 : decode cX10_orderState 28 = .ok (.aload_n 0, 1) := by decide +kernel
theorem dX10_orderState_29 : decode cX10_orderState 29 = .ok (.getfield 19, 3) := by decide +kernel
theorem dX10_orderState_32 : decode cX10_orderState 32 = .ok (.iload_n 1, 1) := by decide +kernel
theorem dX10_orderState_33 : decode cX10_orderState 33 = .ok (.iconst 4, 1) := by decide +kernel
theorem dX10_orderState_34 : decode cX10_orderState 34 = .ok (.invokevirtual 254, 3) := by decide +kernel
theorem dX10_orderState_37 : decode cX10_orderState 37 = .ok (.istore 5, 2) := by decide +kernel
theorem dX10_orderState_39 : decode cX10_orderState 39 = .ok (.aload_n 2, 1) := by decide +kernel
theorem dX10_orderState_40 : decode cX10_orderState 40 = .ok (.getfield 171, 3) := by decide +kernel
theorem dX10_orderState_43 : decode cX10_orderState 43 = .ok (.iload 5, 2) := by decide +kernel
theorem dX10_orderState_45 : decode cX10_orderState 45 = .ok (.if_icmp .le 21, 3) := by decide +kernel
theorem dX10_orderState_48 : decode cX10_orderState 48 = .ok (.aload_n 2, 1) := by decide +kernel
theorem dX10_orderState_49 : decode cX10_orderState 49 = .ok (.getfield 381, 3) := by decide +kernel
theorem dX10_orderState_52 : decode cX10_orderState 52 = .ok (.iload_n 1, 1) := by decide +kernel
theorem dX10_orderState_53 : decode cX10_orderState 53 = .ok (.ishr, 1) := by decide +kernel
theorem dX10_orderState_54 : decode cX10_orderState 54 = .ok (.iconst 1, 1) := by decide +kernel
theorem dX10_orderState_55 : decode cX10_orderState 55 = .ok (.iand, 1) := by decide +kernel
theorem dX10_orderState_56 : decode cX10_orderState 56 = .ok (.iconst 1, 1) := by decide +kernel
theorem dX10_orderState_57 : decode cX10_orderState 57 = .ok (.if_icmp .ne 7, 3) := by decide +kernel
theorem dX10_orderState_60 : decode cX10_orderState 60 = .ok (.iconst 1, 1) := by decide +kernel
theorem dX10_orderState_61 : decode cX10_orderState 61 = .ok (.goto 4, 3) := by decide +kernel
theorem dX10_orderState_64 : decode cX10_orderState 64 = .ok (.iconst 2, 1) := by decide +kernel
theorem dX10_orderState_65 : decode cX10_orderState 65 = .ok (.ireturn, 1) := by decide +kernel
theorem dX10_orderState_66 : decode cX10_orderState 66 = .ok (.aload_n 2, 1) := by decide +kernel
theorem dX10_orderState_67 : decode cX10_orderState 67 = .ok (.getfield 171, 3) := by decide +kernel
theorem dX10_orderState_70 : decode cX10_orderState 70 = .ok (.iload 5, 2) := by decide +kernel
theorem dX10_orderState_72 : decode cX10_orderState 72 = .ok (.if_icmp .ne 15, 3) := by decide +kernel
theorem dX10_orderState_75 : decode cX10_orderState 75 = .ok (.aload_n 2, 1) := by decide +kernel
theorem dX10_orderState_76 : decode cX10_orderState 76 = .ok (.iload_n 3, 1) := by decide +kernel
theorem dX10_orderState_77 : decode cX10_orderState 77 = .ok (.invokevirtual 213, 3) := by decide +kernel
theorem dX10_orderState_80 : decode cX10_orderState 80 = .ok (.iload 4, 2) := by decide +kernel
theorem dX10_orderState_82 : decode cX10_orderState 82 = .ok (.if_icmp .ne 5, 3) := by decide +kernel
theorem dX10_orderState_85 : decode cX10_orderState 85 = .ok (.iconst 1, 1) := by decide +kernel
theorem dX10_orderState_86 : decode cX10_orderState 86 = .ok (.ireturn, 1) := by decide +kernel
theorem dX10_orderState_87 : decode cX10_orderState 87 = .ok (.aload_n 2, 1) := by decide +kernel
theorem dX10_orderState_88 : decode cX10_orderState 88 = .ok (.getfield 171, 3) := by decide +kernel
theorem dX10_orderState_91 : decode cX10_orderState 91 = .ok (.iload 4, 2) := by decide +kernel
theorem dX10_orderState_93 : decode cX10_orderState 93 = .ok (.if_icmp .lt 18, 3) := by decide +kernel
theorem dX10_orderState_96 : decode cX10_orderState 96 = .ok (.aload_n 2, 1) := by decide +kernel
theorem dX10_orderState_97 : decode cX10_orderState 97 = .ok (.iload_n 3, 1) := by decide +kernel
theorem dX10_orderState_98 : decode cX10_orderState 98 = .ok (.iload 4, 2) := by decide +kernel
theorem dX10_orderState_100 : decode cX10_orderState 100 = .ok (.invokevirtual 260, 3) := by decide +kernel
theorem dX10_orderState_103 : decode cX10_orderState 103 = .ok (.iconst (-1), 1) := by decide +kernel
theorem dX10_orderState_104 : decode cX10_orderState 104 = .ok (.if_icmp .ne 7, 3) := by decide +kernel
theorem dX10_orderState_107 : decode cX10_orderState 107 = .ok (.iconst 3, 1) := by decide +kernel
theorem dX10_orderState_108 : decode cX10_orderState 108 = .ok (.goto 4, 3) := by decide +kernel
theorem dX10_orderState_111 : decode cX10_orderState 111 = .ok (.iconst 0, 1) := by decide +kernel
theorem dX10_orderState_112 : decode cX10_orderState 112 = .ok (.ireturn, 1) := by decide +kernel
theorem dX10_need_0 : decode cX10_need 0 = .ok (.iload_n 1, 1) := by decide +kernel
theorem dX10_need_1 : decode cX10_need 1 = .ok (.ifCond .ne 21, 3) := by decide +kernel
theorem dX10_need_4 : decode cX10_need 4 = .ok (.aload_n 0, 1) := by decide +kernel
theorem dX10_need_5 : decode cX10_need 5 = .ok (.getfield 91, 3) := by decide +kernel
theorem dX10_need_8 : decode cX10_need 8 = .ok (.iconst 2, 1) := by decide +kernel
theorem dX10_need_9 : decode cX10_need 9 = .ok (.dup2, 1) := by decide +kernel
theorem dX10_need_10 : decode cX10_need 10 = .ok (.iaload, 1) := by decide +kernel
theorem dX10_need_11 : decode cX10_need 11 = .ok (.iconst 1, 1) := by decide +kernel
theorem dX10_need_12 : decode cX10_need 12 = .ok (.iadd, 1) := by decide +kernel
theorem dX10_need_13 : decode cX10_need 13 = .ok (.iastore, 1) := by decide +kernel
theorem dX10_need_14 : decode cX10_need 14 = .ok (.new 384, 3) := by decide +kernel
theorem dX10_need_17 : decode cX10_need 17 = .ok (.dup, 1) := by decide +kernel
theorem dX10_need_18 : decode cX10_need 18 = .ok (.invokespecial 386, 3) := by decide +kernel
theorem dX10_need_21 : decode cX10_need 21 = .ok (.athrow, 1) := by decide +kernel
theorem dX10_need_22 : decode cX10_need 22 = .ok (.return_, 1) := by decide +kernel
theorem dX10_needWhat_0 : decode cX10_needWhat 0 = .ok (.aload_n 0, 1) := by decide +kernel
theorem dX10_needWhat_1 : decode cX10_needWhat 1 = .ok (.iload_n 1, 1) := by decide +kernel
theorem dX10_needWhat_2 : decode cX10_needWhat 2 = .ok (.ifCond .lt 12, 3) := by decide +kernel
theorem dX10_needWhat_5 : decode cX10_needWhat 5 = .ok (.iload_n 1, 1) := by decide +kernel
theorem dX10_needWhat_6 : decode cX10_needWhat 6 = .ok (.iload_n 2, 1) := by decide +kernel
theorem dX10_needWhat_7 : decode cX10_needWhat 7 = .ok (.if_icmp .gt 7, 3) := by decide +kernel
theorem dX10_needWhat_10 : decode cX10_needWhat 10 = .ok (.iconst 1, 1) := by decide +kernel
theorem dX10_needWhat_11 : decode cX10_needWhat 11 = .ok (.goto 4, 3) := by decide +kernel
theorem dX10_needWhat_14 : decode cX10_needWhat 14 = .ok (.iconst 0, 1) := by decide +kernel
theorem dX10_needWhat_15 : decode cX10_needWhat 15 = .ok (.invokevirtual 223, 3) := by decide +kernel
theorem dX10_needWhat_18 : decode cX10_needWhat 18 = .ok (.return_, 1) := by decide +kernel
theorem dX10_needCells_0 : decode cX10_needCells 0 = .ok (.aload_n 0, 1) := by decide +kernel
theorem dX10_needCells_1 : decode cX10_needCells 1 = .ok (.iload_n 2, 1) := by decide +kernel
theorem dX10_needCells_2 : decode cX10_needCells 2 = .ok (.aload_n 0, 1) := by decide +kernel
theorem dX10_needCells_3 : decode cX10_needCells 3 = .ok (.getfield 19, 3) := by decide +kernel
theorem dX10_needCells_6 : decode cX10_needCells 6 = .ok (.getfield 237, 3) := by decide +kernel
theorem dX10_needCells_9 : decode cX10_needCells 9 = .ok (.iload_n 1, 1) := by decide +kernel
theorem dX10_needCells_10 : decode cX10_needCells 10 = .ok (.iaload, 1) := by decide +kernel
theorem dX10_needCells_11 : decode cX10_needCells 11 = .ok (.iconst (-1), 1) := by decide +kernel
theorem dX10_needCells_12 : decode cX10_needCells 12 = .ok (.ixor, 1) := by decide +kernel
theorem dX10_needCells_13 : decode cX10_needCells 13 = .ok (.iand, 1) := by decide +kernel
theorem dX10_needCells_14 : decode cX10_needCells 14 = .ok (.ifCond .ne 7, 3) := by decide +kernel
theorem dX10_needCells_17 : decode cX10_needCells 17 = .ok (.iconst 1, 1) := by decide +kernel
theorem dX10_needCells_18 : decode cX10_needCells 18 = .ok (.goto 4, 3) := by decide +kernel
theorem dX10_needCells_21 : decode cX10_needCells 21 = .ok (.iconst 0, 1) := by decide +kernel
theorem dX10_needCells_22 : decode cX10_needCells 22 = .ok (.invokevirtual 223, 3) := by decide +kernel
theorem dX10_needCells_25 : decode cX10_needCells 25 = .ok (.return_, 1) := by decide +kernel
theorem dX10_needOrders_0 : decode cX10_needOrders 0 = .ok (.aload_n 0, 1) := by decide +kernel
theorem dX10_needOrders_1 : decode cX10_needOrders 1 = .ok (.iload_n 1, 1) := by decide +kernel
theorem dX10_needOrders_2 : decode cX10_needOrders 2 = .ok (.iconst 1, 1) := by decide +kernel
theorem dX10_needOrders_3 : decode cX10_needOrders 3 = .ok (.aload_n 0, 1) := by decide +kernel
theorem dX10_needOrders_4 : decode cX10_needOrders 4 = .ok (.getfield 19, 3) := by decide +kernel
theorem dX10_needOrders_7 : decode cX10_needOrders 7 = .ok (.getfield 165, 3) := by decide +kernel
theorem dX10_needOrders_10 : decode cX10_needOrders 10 = .ok (.ishl, 1) := by decide +kernel
theorem dX10_needOrders_11 : decode cX10_needOrders 11 = .ok (.ineg, 1) := by decide +kernel
theorem dX10_needOrders_12 : decode cX10_needOrders 12 = .ok (.iand, 1) := by decide +kernel
theorem dX10_needOrders_13 : decode cX10_needOrders 13 = .ok (.ifCond .ne 7, 3) := by decide +kernel
theorem dX10_needOrders_16 : decode cX10_needOrders 16 = .ok (.iconst 1, 1) := by decide +kernel
theorem dX10_needOrders_17 : decode cX10_needOrders 17 = .ok (.goto 4, 3) := by decide +kernel
theorem dX10_needOrders_20 : decode cX10_needOrders 20 = .ok (.iconst 0, 1) := by decide +kernel
theorem dX10_needOrders_21 : decode cX10_needOrders 21 = .ok (.invokevirtual 223, 3) := by decide +kernel
theorem dX10_needOrders_24 : decode cX10_needOrders 24 = .ok (.return_, 1) := by decide +kernel
theorem dX10_needDecade_0 : decode cX10_needDecade 0 = .ok (.aload_n 0, 1) := by decide +kernel
theorem dX10_needDecade_1 : decode cX10_needDecade 1 = .ok (.iload_n 1, 1) := by decide +kernel
theorem dX10_needDecade_2 : decode cX10_needDecade 2 = .ok (.ifCond .lt 24, 3) := by decide +kernel
theorem dX10_needDecade_5 : decode cX10_needDecade 5 = .ok (.iload_n 1, 1) := by decide +kernel
theorem dX10_needDecade_6 : decode cX10_needDecade 6 = .ok (.bipush 16, 2) := by decide +kernel
theorem dX10_needDecade_8 : decode cX10_needDecade 8 = .ok (.if_icmp .gt 18, 3) := by decide +kernel
theorem dX10_needDecade_11 : decode cX10_needDecade 11 = .ok (.iload_n 2, 1) := by decide +kernel
theorem dX10_needDecade_12 : decode cX10_needDecade 12 = .ok (.iconst 1, 1) := by decide +kernel
theorem dX10_needDecade_13 : decode cX10_needDecade 13 = .ok (.if_icmp .lt 13, 3) := by decide +kernel
theorem dX10_needDecade_16 : decode cX10_needDecade 16 = .ok (.iload_n 2, 1) := by decide +kernel
theorem dX10_needDecade_17 : decode cX10_needDecade 17 = .ok (.bipush 60, 2) := by decide +kernel
theorem dX10_needDecade_19 : decode cX10_needDecade 19 = .ok (.if_icmp .gt 7, 3) := by decide +kernel
theorem dX10_needDecade_22 : decode cX10_needDecade 22 = .ok (.iconst 1, 1) := by decide +kernel
theorem dX10_needDecade_23 : decode cX10_needDecade 23 = .ok (.goto 4, 3) := by decide +kernel
theorem dX10_needDecade_26 : decode cX10_needDecade 26 = .ok (.iconst 0, 1) := by decide +kernel
theorem dX10_needDecade_27 : decode cX10_needDecade 27 = .ok (.invokevirtual 223, 3) := by decide +kernel
theorem dX10_needDecade_30 : decode cX10_needDecade 30 = .ok (.return_, 1) := by decide +kernel
theorem dX10_needPane_0 : decode cX10_needPane 0 = .ok (.iload_n 1, 1) := by decide +kernel
theorem dX10_needPane_1 : decode cX10_needPane 1 = .ok (.ifCond .lt 14, 3) := by decide +kernel
theorem dX10_needPane_4 : decode cX10_needPane 4 = .ok (.iload_n 1, 1) := by decide +kernel
theorem dX10_needPane_5 : decode cX10_needPane 5 = .ok (.aload_n 0, 1) := by decide +kernel
theorem dX10_needPane_6 : decode cX10_needPane 6 = .ok (.getfield 19, 3) := by decide +kernel
theorem dX10_needPane_9 : decode cX10_needPane 9 = .ok (.getfield 129, 3) := by decide +kernel
theorem dX10_needPane_12 : decode cX10_needPane 12 = .ok (.if_icmp .lt 21, 3) := by decide +kernel
theorem dX10_needPane_15 : decode cX10_needPane 15 = .ok (.aload_n 0, 1) := by decide +kernel
theorem dX10_needPane_16 : decode cX10_needPane 16 = .ok (.getfield 91, 3) := by decide +kernel
theorem dX10_needPane_19 : decode cX10_needPane 19 = .ok (.iconst 1, 1) := by decide +kernel
theorem dX10_needPane_20 : decode cX10_needPane 20 = .ok (.dup2, 1) := by decide +kernel
theorem dX10_needPane_21 : decode cX10_needPane 21 = .ok (.iaload, 1) := by decide +kernel
theorem dX10_needPane_22 : decode cX10_needPane 22 = .ok (.iconst 1, 1) := by decide +kernel
theorem dX10_needPane_23 : decode cX10_needPane 23 = .ok (.iadd, 1) := by decide +kernel
theorem dX10_needPane_24 : decode cX10_needPane 24 = .ok (.iastore, 1) := by decide +kernel
theorem dX10_needPane_25 : decode cX10_needPane 25 = .ok (.new 387, 3) := by decide +kernel
theorem dX10_needPane_28 : decode cX10_needPane 28 = .ok (.dup, 1) := by decide +kernel
theorem dX10_needPane_29 : decode cX10_needPane 29 = .ok (.invokespecial 389, 3) := by decide +kernel
theorem dX10_needPane_32 : decode cX10_needPane 32 = .ok (.athrow, 1) := by decide +kernel
theorem dX10_needPane_33 : decode cX10_needPane 33 = .ok (.return_, 1) := by decide +kernel
theorem dX10_needOrder_0 : decode cX10_needOrder 0 = .ok (.iload_n 1, 1) := by decide +kernel
theorem dX10_needOrder_1 : decode cX10_needOrder 1 = .ok (.ifCond .lt 14, 3) := by decide +kernel
theorem dX10_needOrder_4 : decode cX10_needOrder 4 = .ok (.iload_n 1, 1) := by decide +kernel
theorem dX10_needOrder_5 : decode cX10_needOrder 5 = .ok (.aload_n 0, 1) := by decide +kernel
theorem dX10_needOrder_6 : decode cX10_needOrder 6 = .ok (.getfield 19, 3) := by decide +kernel
theorem dX10_needOrder_9 : decode cX10_needOrder 9 = .ok (.getfield 165, 3) := by decide +kernel
theorem dX10_needOrder_12 : decode cX10_needOrder 12 = .ok (.if_icmp .lt 21, 3) := by decide +kernel
theorem dX10_needOrder_15 : decode cX10_needOrder 15 = .ok (.aload_n 0, 1) := by decide +kernel
theorem dX10_needOrder_16 : decode cX10_needOrder 16 = .ok (.getfield 91, 3) := by decide +kernel
theorem dX10_needOrder_19 : decode cX10_needOrder 19 = .ok (.iconst 1, 1) := by decide +kernel
theorem dX10_needOrder_20 : decode cX10_needOrder 20 = .ok (.dup2, 1) := by decide +kernel
theorem dX10_needOrder_21 : decode cX10_needOrder 21 = .ok (.iaload, 1) := by decide +kernel
theorem dX10_needOrder_22 : decode cX10_needOrder 22 = .ok (.iconst 1, 1) := by decide +kernel
theorem dX10_needOrder_23 : decode cX10_needOrder 23 = .ok (.iadd, 1) := by decide +kernel
theorem dX10_needOrder_24 : decode cX10_needOrder 24 = .ok (.iastore, 1) := by decide +kernel
theorem dX10_needOrder_25 : decode cX10_needOrder 25 = .ok (.new 387, 3) := by decide +kernel
theorem dX10_needOrder_28 : decode cX10_needOrder 28 = .ok (.dup, 1) := by decide +kernel
theorem dX10_needOrder_29 : decode cX10_needOrder 29 = .ok (.invokespecial 389, 3) := by decide +kernel
theorem dX10_needOrder_32 : decode cX10_needOrder 32 = .ok (.athrow, 1) := by decide +kernel
theorem dX10_needOrder_33 : decode cX10_needOrder 33 = .ok (.return_, 1) := by decide +kernel
theorem dX10_needCell_0 : decode cX10_needCell 0 = .ok (.aload_n 0, 1) := by decide +kernel
theorem dX10_needCell_1 : decode cX10_needCell 1 = .ok (.iload_n 1, 1) := by decide +kernel
theorem dX10_needCell_2 : decode cX10_needCell 2 = .ok (.invokevirtual 186, 3) := by decide +kernel
theorem dX10_needCell_5 : decode cX10_needCell 5 = .ok (.iload_n 2, 1) := by decide +kernel
theorem dX10_needCell_6 : decode cX10_needCell 6 = .ok (.ifCond .lt 33, 3) := by decide +kernel
theorem dX10_needCell_9 : decode cX10_needCell 9 = .ok (.iload_n 2, 1) := by decide +kernel
theorem dX10_needCell_10 : decode cX10_needCell 10 = .ok (.aload_n 0, 1) := by decide +kernel
theorem dX10_needCell_11 : decode cX10_needCell 11 = .ok (.getfield 19, 3) := by decide +kernel
theorem dX10_needCell_14 : decode cX10_needCell 14 = .ok (.getfield 189, 3) := by decide +kernel
theorem dX10_needCell_17 : decode cX10_needCell 17 = .ok (.iload_n 1, 1) := by decide +kernel
theorem dX10_needCell_18 : decode cX10_needCell 18 = .ok (.iaload, 1) := by decide +kernel
theorem dX10_needCell_19 : decode cX10_needCell 19 = .ok (.if_icmp .ge 20, 3) := by decide +kernel
theorem dX10_needCell_22 : decode cX10_needCell 22 = .ok (.iload_n 3, 1) := by decide +kernel
theorem dX10_needCell_23 : decode cX10_needCell 23 = .ok (.ifCond .lt 16, 3) := by decide +kernel
theorem dX10_needCell_26 : decode cX10_needCell 26 = .ok (.iload_n 3, 1) := by decide +kernel
theorem dX10_needCell_27 : decode cX10_needCell 27 = .ok (.aload_n 0, 1) := by decide +kernel
theorem dX10_needCell_28 : decode cX10_needCell 28 = .ok (.getfield 19, 3) := by decide +kernel
theorem dX10_needCell_31 : decode cX10_needCell 31 = .ok (.getfield 192, 3) := by decide +kernel
theorem dX10_needCell_34 : decode cX10_needCell 34 = .ok (.iload_n 1, 1) := by decide +kernel
theorem dX10_needCell_35 : decode cX10_needCell 35 = .ok (.iaload, 1) := by decide +kernel
theorem dX10_needCell_36 : decode cX10_needCell 36 = .ok (.if_icmp .lt 21, 3) := by decide +kernel
theorem dX10_needCell_39 : decode cX10_needCell 39 = .ok (.aload_n 0, 1) := by decide +kernel
theorem dX10_needCell_40 : decode cX10_needCell 40 = .ok (.getfield 91, 3) := by decide +kernel
theorem dX10_needCell_43 : decode cX10_needCell 43 = .ok (.iconst 0, 1) := by decide +kernel
theorem dX10_needCell_44 : decode cX10_needCell 44 = .ok (.dup2, 1) := by decide +kernel
theorem dX10_needCell_45 : decode cX10_needCell 45 = .ok (.iaload, 1) := by decide +kernel
theorem dX10_needCell_46 : decode cX10_needCell 46 = .ok (.iconst 1, 1) := by decide +kernel
theorem dX10_needCell_47 : decode cX10_needCell 47 = .ok (.iadd, 1) := by decide +kernel
theorem dX10_needCell_48 : decode cX10_needCell 48 = .ok (.iastore, 1) := by decide +kernel
theorem dX10_needCell_49 : decode cX10_needCell 49 = .ok (.new 390, 3) := by decide +kernel
theorem dX10_needCell_52 : decode cX10_needCell 52 = .ok (.dup, 1) := by decide +kernel
theorem dX10_needCell_53 : decode cX10_needCell 53 = .ok (.invokespecial 392, 3) := by decide +kernel
theorem dX10_needCell_56 : decode cX10_needCell 56 = .ok (.athrow, 1) := by decide +kernel
theorem dX10_needCell_57 : decode cX10_needCell 57 = .ok (.iload_n 1, 1) := by decide +kernel
theorem dX10_needCell_58 : decode cX10_needCell 58 = .ok (.iload_n 2, 1) := by decide +kernel
theorem dX10_needCell_59 : decode cX10_needCell 59 = .ok (.iload_n 3, 1) := by decide +kernel
theorem dX10_needCell_60 : decode cX10_needCell 60 = .ok (.invokestatic 393, 3) := by decide +kernel
theorem dX10_needCell_63 : decode cX10_needCell 63 = .ok (.ireturn, 1) := by decide +kernel
theorem dX10_cellAt_0 : decode cX10_cellAt 0 = .ok (.bipush 16, 2) := by decide +kernel
theorem dX10_cellAt_2 : decode cX10_cellAt 2 = .ok (.iload_n 0, 1) := by decide +kernel
theorem dX10_cellAt_3 : decode cX10_cellAt 3 = .ok (.imul, 1) := by decide +kernel
theorem dX10_cellAt_4 : decode cX10_cellAt 4 = .ok (.iconst 4, 1) := by decide +kernel
theorem dX10_cellAt_5 : decode cX10_cellAt 5 = .ok (.iload_n 2, 1) := by decide +kernel
theorem dX10_cellAt_6 : decode cX10_cellAt 6 = .ok (.imul, 1) := by decide +kernel
theorem dX10_cellAt_7 : decode cX10_cellAt 7 = .ok (.iadd, 1) := by decide +kernel
theorem dX10_cellAt_8 : decode cX10_cellAt 8 = .ok (.iload_n 1, 1) := by decide +kernel
theorem dX10_cellAt_9 : decode cX10_cellAt 9 = .ok (.iadd, 1) := by decide +kernel
theorem dX10_cellAt_10 : decode cX10_cellAt 10 = .ok (.ireturn, 1) := by decide +kernel
