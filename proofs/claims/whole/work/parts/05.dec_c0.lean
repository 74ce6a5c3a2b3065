theorem dX0_init_0 : decode cX0_init 0 = .ok (.aload_n 0, 1) := by decide +kernel
theorem dX0_init_1 : decode cX0_init 1 = .ok (.invokespecial 3, 3) := by decide +kernel
theorem dX0_init_4 : decode cX0_init 4 = .ok (.aload_n 0, 1) := by decide +kernel
theorem dX0_init_5 : decode cX0_init 5 = .ok (.bipush 8, 2) := by decide +kernel
theorem dX0_init_7 : decode cX0_init 7 = .ok (.newarray .int, 2) := by decide +kernel
theorem dX0_init_9 : decode cX0_init 9 = .ok (.putfield 9, 3) := by decide +kernel
theorem dX0_init_12 : decode cX0_init 12 = .ok (.aload_n 0, 1) := by decide +kernel
theorem dX0_init_13 : decode cX0_init 13 = .ok (.bipush 8, 2) := by decide +kernel
theorem dX0_init_15 : decode cX0_init 15 = .ok (.newarray .int, 2) := by decide +kernel
theorem dX0_init_17 : decode cX0_init 17 = .ok (.putfield 15, 3) := by decide +kernel
theorem dX0_init_20 : decode cX0_init 20 = .ok (.return_, 1) := by decide +kernel
theorem dX0_forget_0 : decode cX0_forget 0 = .ok (.aload_n 0, 1) := by decide +kernel
theorem dX0_forget_1 : decode cX0_forget 1 = .ok (.iconst 0, 1) := by decide +kernel
theorem dX0_forget_2 : decode cX0_forget 2 = .ok (.putfield 18, 3) := by decide +kernel
theorem dX0_forget_5 : decode cX0_forget 5 = .ok (.aload_n 0, 1) := by decide +kernel
theorem dX0_forget_6 : decode cX0_forget 6 = .ok (.iconst 0, 1) := by decide +kernel
theorem dX0_forget_7 : decode cX0_forget 7 = .ok (.putfield 22, 3) := by decide +kernel
theorem dX0_forget_10 : decode cX0_forget 10 = .ok (.return_, 1) := by decide +kernel
theorem dX0_read_0 : decode cX0_read 0 = .ok (.aload_n 0, 1) := by decide +kernel
theorem dX0_read_1 : decode cX0_read 1 = .ok (.invokevirtual 25, 3) := by decide +kernel
theorem dX0_read_4 : decode cX0_read 4 = .ok (.iconst 0, 1) := by decide +kernel
theorem dX0_read_5 : decode cX0_read 5 = .ok (.istore_n 2, 1) := by decide +kernel
theorem dX0_read_6 : decode cX0_read 6 = .ok (.iload_n 2, 1) := by decide +kernel
theorem dX0_read_7 : decode cX0_read 7 = .ok (.bipush 8, 2) := by decide +kernel
theorem dX0_read_9 : decode cX0_read 9 = .ok (.if_icmp .gt 28, 3) := by decide +kernel
theorem dX0_read_12 : decode cX0_read 12 = .ok (.aload_n 1, 1) := by decide +kernel
theorem dX0_read_13 : decode cX0_read 13 = .ok (.getfield 28, 3) := by decide +kernel
theorem dX0_read_16 : decode cX0_read 16 = .ok (.ifCond .ne 21, 3) := by decide +kernel
theorem dX0_read_19 : decode cX0_read 19 = .ok (.aload_n 1, 1) := by decide +kernel
theorem dX0_read_20 : decode cX0_read 20 = .ok (.getfield 33, 3) := by decide +kernel
theorem dX0_read_23 : decode cX0_read 23 = .ok (.ifCond .eq 14, 3) := by decide +kernel
theorem dX0_read_26 : decode cX0_read 26 = .ok (.aload_n 0, 1) := by decide +kernel
theorem dX0_read_27 : decode cX0_read 27 = .ok (.aload_n 1, 1) := by decide +kernel
theorem dX0_read_28 : decode cX0_read 28 = .ok (.invokevirtual 36, 3) := by decide +kernel
theorem dX0_read_31 : decode cX0_read 31 = .ok (.iinc 2 1, 3) := by decide +kernel
theorem dX0_read_34 : decode cX0_read 34 = .ok (.goto (-28), 3) := by decide +kernel
theorem dX0_read_37 : decode cX0_read 37 = .ok (.aload_n 1, 1) := by decide +kernel
theorem dX0_read_38 : decode cX0_read 38 = .ok (.invokevirtual 40, 3) := by decide +kernel
theorem dX0_read_41 : decode cX0_read 41 = .ok (.ireturn, 1) := by decide +kernel
theorem dX0_readLine_0 : decode cX0_readLine 0 = .ok (.aload_n 1, 1) := by decide +kernel
theorem dX0_readLine_1 : decode cX0_readLine 1 = .ok (.getfield 33, 3) := by decide +kernel
theorem dX0_readLine_4 : decode cX0_readLine 4 = .ok (.iconst 1, 1) := by decide +kernel
theorem dX0_readLine_5 : decode cX0_readLine 5 = .ok (.if_icmp .ne 26, 3) := by decide +kernel
theorem dX0_readLine_8 : decode cX0_readLine 8 = .ok (.aload_n 1, 1) := by decide +kernel
theorem dX0_readLine_9 : decode cX0_readLine 9 = .ok (.getfield 44, 3) := by decide +kernel
theorem dX0_readLine_12 : decode cX0_readLine 12 = .ok (.iconst 3, 1) := by decide +kernel
theorem dX0_readLine_13 : decode cX0_readLine 13 = .ok (.if_icmp .gt 18, 3) := by decide +kernel
theorem dX0_readLine_16 : decode cX0_readLine 16 = .ok (.aload_n 0, 1) := by decide +kernel
theorem dX0_readLine_17 : decode cX0_readLine 17 = .ok (.getfield 18, 3) := by decide +kernel
theorem dX0_readLine_20 : decode cX0_readLine 20 = .ok (.bipush 8, 2) := by decide +kernel
theorem dX0_readLine_22 : decode cX0_readLine 22 = .ok (.if_icmp .lt 9, 3) := by decide +kernel
theorem dX0_readLine_25 : decode cX0_readLine 25 = .ok (.aload_n 1, 1) := by decide +kernel
theorem dX0_readLine_26 : decode cX0_readLine 26 = .ok (.iconst 3, 1) := by decide +kernel
theorem dX0_readLine_27 : decode cX0_readLine 27 = .ok (.invokevirtual 47, 3) := by decide +kernel
theorem dX0_readLine_30 : decode cX0_readLine 30 = .ok (.return_, 1) := by decide +kernel
theorem dX0_readLine_31 : decode cX0_readLine 31 = .ok (.aload_n 1, 1) := by decide +kernel
theorem dX0_readLine_32 : decode cX0_readLine 32 = .ok (.iconst 0, 1) := by decide +kernel
theorem dX0_readLine_33 : decode cX0_readLine 33 = .ok (.iconst 3, 1) := by decide +kernel
theorem dX0_readLine_34 : decode cX0_readLine 34 = .ok (.invokevirtual 51, 3) := by decide +kernel
theorem dX0_readLine_37 : decode cX0_readLine 37 = .ok (.istore_n 2, 1) := by decide +kernel
theorem dX0_readLine_38 : decode cX0_readLine 38 = .ok (.aload_n 1, 1) := by decide +kernel
theorem dX0_readLine_39 : decode cX0_readLine 39 = .ok (.getfield 33, 3) := by decide +kernel
theorem dX0_readLine_42 : decode cX0_readLine 42 = .ok (.iconst 1, 1) := by decide +kernel
theorem dX0_readLine_43 : decode cX0_readLine 43 = .ok (.if_icmp .ne 34, 3) := by decide +kernel
theorem dX0_readLine_46 : decode cX0_readLine 46 = .ok (.aload_n 1, 1) := by decide +kernel
theorem dX0_readLine_47 : decode cX0_readLine 47 = .ok (.getfield 44, 3) := by decide +kernel
theorem dX0_readLine_50 : decode cX0_readLine 50 = .ok (.iconst 3, 1) := by decide +kernel
theorem dX0_readLine_51 : decode cX0_readLine 51 = .ok (.if_icmp .gt 26, 3) := by decide +kernel
theorem dX0_readLine_54 : decode cX0_readLine 54 = .ok (.aload_n 0, 1) := by decide +kernel
theorem dX0_readLine_55 : decode cX0_readLine 55 = .ok (.getfield 22, 3) := by decide +kernel
theorem dX0_readLine_58 : decode cX0_readLine 58 = .ok (.iconst 4, 1) := by decide +kernel
theorem dX0_readLine_59 : decode cX0_readLine 59 = .ok (.aload_n 1, 1) := by decide +kernel
theorem dX0_readLine_60 : decode cX0_readLine 60 = .ok (.getfield 44, 3) := by decide +kernel
theorem dX0_readLine_63 : decode cX0_readLine 63 = .ok (.imul, 1) := by decide +kernel
theorem dX0_readLine_64 : decode cX0_readLine 64 = .ok (.iload_n 2, 1) := by decide +kernel
theorem dX0_readLine_65 : decode cX0_readLine 65 = .ok (.iadd, 1) := by decide +kernel
theorem dX0_readLine_66 : decode cX0_readLine 66 = .ok (.ishr, 1) := by decide +kernel
theorem dX0_readLine_67 : decode cX0_readLine 67 = .ok (.iconst 1, 1) := by decide +kernel
theorem dX0_readLine_68 : decode cX0_readLine 68 = .ok (.iand, 1) := by decide +kernel
theorem dX0_readLine_69 : decode cX0_readLine 69 = .ok (.iconst 1, 1) := by decide +kernel
theorem dX0_readLine_70 : decode cX0_readLine 70 = .ok (.if_icmp .ne 7, 3) := by decide +kernel
theorem dX0_readLine_73 : decode cX0_readLine 73 = .ok (.iconst 1, 1) := by decide +kernel
theorem dX0_readLine_74 : decode cX0_readLine 74 = .ok (.goto 4, 3) := by decide +kernel
theorem dX0_readLine_77 : decode cX0_readLine 77 = .ok (.iconst 0, 1) := by decide +kernel
theorem dX0_readLine_78 : decode cX0_readLine 78 = .ok (.istore_n 3, 1) := by decide +kernel
theorem dX0_readLine_79 : decode cX0_readLine 79 = .ok (.iload_n 3, 1) := by decide +kernel
theorem dX0_readLine_80 : decode cX0_readLine 80 = .ok (.ifCond .eq 8, 3) := by decide +kernel
theorem dX0_readLine_83 : decode cX0_readLine 83 = .ok (.aload_n 1, 1) := by decide +kernel
theorem dX0_readLine_84 : decode cX0_readLine 84 = .ok (.iconst 2, 1) := by decide +kernel
theorem dX0_readLine_85 : decode cX0_readLine 85 = .ok (.invokevirtual 47, 3) := by decide +kernel
theorem dX0_readLine_88 : decode cX0_readLine 88 = .ok (.iconst 4, 1) := by decide +kernel
theorem dX0_readLine_89 : decode cX0_readLine 89 = .ok (.aload_n 1, 1) := by decide +kernel
theorem dX0_readLine_90 : decode cX0_readLine 90 = .ok (.iconst 0, 1) := by decide +kernel
theorem dX0_readLine_91 : decode cX0_readLine 91 = .ok (.iconst 3, 1) := by decide +kernel
theorem dX0_readLine_92 : decode cX0_readLine 92 = .ok (.invokevirtual 51, 3) := by decide +kernel
theorem dX0_readLine_95 : decode cX0_readLine 95 = .ok (.imul, 1) := by decide +kernel
theorem dX0_readLine_96 : decode cX0_readLine 96 = .ok (.iload_n 2, 1) := by decide +kernel
theorem dX0_readLine_97 : decode cX0_readLine 97 = .ok (.iadd, 1) := by decide +kernel
theorem dX0_readLine_98 : decode cX0_readLine 98 = .ok (.istore 4, 2) := by decide +kernel
theorem dX0_readLine_100 : decode cX0_readLine 100 = .ok (.aload_n 1, 1) := by decide +kernel
theorem dX0_readLine_101 : decode cX0_readLine 101 = .ok (.iconst 0, 1) := by decide +kernel
theorem dX0_readLine_102 : decode cX0_readLine 102 = .ok (.sipush 200, 3) := by decide +kernel
theorem dX0_readLine_105 : decode cX0_readLine 105 = .ok (.invokevirtual 51, 3) := by decide +kernel
theorem dX0_readLine_108 : decode cX0_readLine 108 = .ok (.istore 5, 2) := by decide +kernel
theorem dX0_readLine_110 : decode cX0_readLine 110 = .ok (.aload_n 1, 1) := by decide +kernel
theorem dX0_readLine_111 : decode cX0_readLine 111 = .ok (.bipush 59, 2) := by decide +kernel
theorem dX0_readLine_113 : decode cX0_readLine 113 = .ok (.invokevirtual 55, 3) := by decide +kernel
theorem dX0_readLine_116 : decode cX0_readLine 116 = .ok (.aload_n 1, 1) := by decide +kernel
theorem dX0_readLine_117 : decode cX0_readLine 117 = .ok (.getfield 28, 3) := by decide +kernel
theorem dX0_readLine_120 : decode cX0_readLine 120 = .ok (.ifCond .ne 48, 3) := by decide +kernel
theorem dX0_readLine_123 : decode cX0_readLine 123 = .ok (.aload_n 0, 1) := by decide +kernel
theorem dX0_readLine_124 : decode cX0_readLine 124 = .ok (.getfield 9, 3) := by decide +kernel
theorem dX0_readLine_127 : decode cX0_readLine 127 = .ok (.aload_n 0, 1) := by decide +kernel
theorem dX0_readLine_128 : decode cX0_readLine 128 = .ok (.getfield 18, 3) := by decide +kernel
theorem dX0_readLine_131 : decode cX0_readLine 131 = .ok (.iload 4, 2) := by decide +kernel
theorem dX0_readLine_133 : decode cX0_readLine 133 = .ok (.iastore, 1) := by decide +kernel
theorem dX0_readLine_134 : decode cX0_readLine 134 = .ok (.aload_n 0, 1) := by decide +kernel
theorem dX0_readLine_135 : decode cX0_readLine 135 = .ok (.getfield 15, 3) := by decide +kernel
theorem dX0_readLine_138 : decode cX0_readLine 138 = .ok (.aload_n 0, 1) := by decide +kernel
theorem dX0_readLine_139 : decode cX0_readLine 139 = .ok (.getfield 18, 3) := by decide +kernel
theorem dX0_readLine_142 : decode cX0_readLine 142 = .ok (.iload 5, 2) := by decide +kernel
theorem dX0_readLine_144 : decode cX0_readLine 144 = .ok (.iastore, 1) := by decide +kernel
theorem dX0_readLine_145 : decode cX0_readLine 145 = .ok (.aload_n 0, 1) := by decide +kernel
theorem dX0_readLine_146 : decode cX0_readLine 146 = .ok (.dup, 1) := by decide +kernel
theorem dX0_readLine_147 : decode cX0_readLine 147 = .ok (.getfield 22, 3) := by decide +kernel
theorem dX0_readLine_150 : decode cX0_readLine 150 = .ok (.iconst 1, 1) := by decide +kernel
theorem dX0_readLine_151 : decode cX0_readLine 151 = .ok (.iload 4, 2) := by decide +kernel
theorem dX0_readLine_153 : decode cX0_readLine 153 = .ok (.ishl, 1) := by decide +kernel
theorem dX0_readLine_154 : decode cX0_readLine 154 = .ok (.ior, 1) := by decide +kernel
theorem dX0_readLine_155 : decode cX0_readLine 155 = .ok (.putfield 22, 3) := by decide +kernel
theorem dX0_readLine_158 : decode cX0_readLine 158 = .ok (.aload_n 0, 1) := by decide +kernel
theorem dX0_readLine_159 : decode cX0_readLine 159 = .ok (.dup, 1) := by decide +kernel
theorem dX0_readLine_160 : decode cX0_readLine 160 = .ok (.getfield 18, 3) := by decide +kernel
theorem dX0_readLine_163 : decode cX0_readLine 163 = .ok (.iconst 1, 1) := by decide +kernel
theorem dX0_readLine_164 : decode cX0_readLine 164 = .ok (.iadd, 1) := by decide +kernel
theorem dX0_readLine_165 : decode cX0_readLine 165 = .ok (.putfield 18, 3) := by decide +kernel
theorem dX0_readLine_168 : decode cX0_readLine 168 = .ok (.return_, 1) := by decide +kernel
theorem dX0_depths_0 : decode cX0_depths 0 = .ok (.aload_n 0, 1) := by decide +kernel
theorem dX0_depths_1 : decode cX0_depths 1 = .ok (.getfield 22, 3) := by decide +kernel
theorem dX0_depths_4 : decode cX0_depths 4 = .ok (.iload_n 3, 1) := by decide +kernel
theorem dX0_depths_5 : decode cX0_depths 5 = .ok (.iconst (-1), 1) := by decide +kernel
theorem dX0_depths_6 : decode cX0_depths 6 = .ok (.ixor, 1) := by decide +kernel
theorem dX0_depths_7 : decode cX0_depths 7 = .ok (.iand, 1) := by decide +kernel
theorem dX0_depths_8 : decode cX0_depths 8 = .ok (.ifCond .eq 5, 3) := by decide +kernel
theorem dX0_depths_11 : decode cX0_depths 11 = .ok (.iconst 0, 1) := by decide +kernel
theorem dX0_depths_12 : decode cX0_depths 12 = .ok (.ireturn, 1) := by decide +kernel
theorem dX0_depths_13 : decode cX0_depths 13 = .ok (.ldc 59, 2) := by decide +kernel
theorem dX0_depths_15 : decode cX0_depths 15 = .ok (.istore 4, 2) := by decide +kernel
theorem dX0_depths_17 : decode cX0_depths 17 = .ok (.iconst 0, 1) := by decide +kernel
theorem dX0_depths_18 : decode cX0_depths 18 = .ok (.istore 5, 2) := by decide +kernel
theorem dX0_depths_20 : decode cX0_depths 20 = .ok (.iload 5, 2) := by decide +kernel
theorem dX0_depths_22 : decode cX0_depths 22 = .ok (.aload_n 0, 1) := by decide +kernel
theorem dX0_depths_23 : decode cX0_depths 23 = .ok (.getfield 18, 3) := by decide +kernel
theorem dX0_depths_26 : decode cX0_depths 26 = .ok (.if_icmp .ge 37, 3) := by decide +kernel
theorem dX0_depths_29 : decode cX0_depths 29 = .ok (.iload 4, 2) := by decide +kernel
theorem dX0_depths_31 : decode cX0_depths 31 = .ok (.aload_n 1, 1) := by decide +kernel
theorem dX0_depths_32 : decode cX0_depths 32 = .ok (.bipush 16, 2) := by decide +kernel
theorem dX0_depths_34 : decode cX0_depths 34 = .ok (.iload_n 2, 1) := by decide +kernel
theorem dX0_depths_35 : decode cX0_depths 35 = .ok (.imul, 1) := by decide +kernel
theorem dX0_depths_36 : decode cX0_depths 36 = .ok (.aload_n 0, 1) := by decide +kernel
theorem dX0_depths_37 : decode cX0_depths 37 = .ok (.getfield 9, 3) := by decide +kernel
theorem dX0_depths_40 : decode cX0_depths 40 = .ok (.iload 5, 2) := by decide +kernel
theorem dX0_depths_42 : decode cX0_depths 42 = .ok (.iaload, 1) := by decide +kernel
theorem dX0_depths_43 : decode cX0_depths 43 = .ok (.iadd, 1) := by decide +kernel
theorem dX0_depths_44 : decode cX0_depths 44 = .ok (.aload_n 0, 1) := by decide +kernel
theorem dX0_depths_45 : decode cX0_depths 45 = .ok (.getfield 15, 3) := by decide +kernel
theorem dX0_depths_48 : decode cX0_depths 48 = .ok (.iload 5, 2) := by decide +kernel
theorem dX0_depths_50 : decode cX0_depths 50 = .ok (.iaload, 1) := by decide +kernel
theorem dX0_depths_51 : decode cX0_depths 51 = .ok (.invokestatic 60, 3) := by decide +kernel
theorem dX0_depths_54 : decode cX0_depths 54 = .ok (.iand, 1) := by decide +kernel
theorem dX0_depths_55 : decode cX0_depths 55 = .ok (.istore 4, 2) := by decide +kernel
theorem dX0_depths_57 : decode cX0_depths 57 = .ok (.iinc 5 1, 3) := by decide +kernel
theorem dX0_depths_60 : decode cX0_depths 60 = .ok (.goto (-40), 3) := by decide +kernel
theorem dX0_depths_63 : decode cX0_depths 63 = .ok (.iload 4, 2) := by decide +kernel
theorem dX0_depths_65 : decode cX0_depths 65 = .ok (.ireturn, 1) := by decide +kernel
theorem dX0_depthsShowing_0 : decode cX0_depthsShowing 0 = .ok (.iload_n 2, 1) := by decide +kernel
theorem dX0_depthsShowing_1 : decode cX0_depthsShowing 1 = .ok (.ifCond .ne 16, 3) := by decide +kernel
theorem dX0_depthsShowing_4 : decode cX0_depthsShowing 4 = .ok (.ldc 59, 2) := by decide +kernel
theorem dX0_depthsShowing_6 : decode cX0_depthsShowing 6 = .ok (.iconst 1, 1) := by decide +kernel
theorem dX0_depthsShowing_7 : decode cX0_depthsShowing 7 = .ok (.aload_n 0, 1) := by decide +kernel
theorem dX0_depthsShowing_8 : decode cX0_depthsShowing 8 = .ok (.getfield 64, 3) := by decide +kernel
theorem dX0_depthsShowing_11 : decode cX0_depthsShowing 11 = .ok (.iload_n 1, 1) := by decide +kernel
theorem dX0_depthsShowing_12 : decode cX0_depthsShowing 12 = .ok (.iaload, 1) := by decide +kernel
theorem dX0_depthsShowing_13 : decode cX0_depthsShowing 13 = .ok (.ishl, 1) := by decide +kernel
theorem dX0_depthsShowing_14 : decode cX0_depthsShowing 14 = .ok (.ineg, 1) := by decide +kernel
theorem dX0_depthsShowing_15 : decode cX0_depthsShowing 15 = .ok (.iand, 1) := by decide +kernel
theorem dX0_depthsShowing_16 : decode cX0_depthsShowing 16 = .ok (.ireturn, 1) := by decide +kernel
theorem dX0_depthsShowing_17 : decode cX0_depthsShowing 17 = .ok (.aload_n 0, 1) := by decide +kernel
theorem dX0_depthsShowing_18 : decode cX0_depthsShowing 18 = .ok (.iload_n 1, 1) := by decide +kernel
theorem dX0_depthsShowing_19 : decode cX0_depthsShowing 19 = .ok (.iload_n 2, 1) := by decide +kernel
theorem dX0_depthsShowing_20 : decode cX0_depthsShowing 20 = .ok (.invokevirtual 69, 3) := by decide +kernel
theorem dX0_depthsShowing_23 : decode cX0_depthsShowing 23 = .ok (.istore_n 3, 1) := by decide +kernel
theorem dX0_depthsShowing_24 : decode cX0_depthsShowing 24 = .ok (.iload_n 3, 1) := by decide +kernel
theorem dX0_depthsShowing_25 : decode cX0_depthsShowing 25 = .ok (.iconst (-1), 1) := by decide +kernel
theorem dX0_depthsShowing_26 : decode cX0_depthsShowing 26 = .ok (.if_icmp .ne 7, 3) := by decide +kernel
theorem dX0_depthsShowing_29 : decode cX0_depthsShowing 29 = .ok (.iconst 0, 1) := by decide +kernel
theorem dX0_depthsShowing_30 : decode cX0_depthsShowing 30 = .ok (.goto 6, 3) := by decide +kernel
theorem dX0_depthsShowing_33 : decode cX0_depthsShowing 33 = .ok (.iconst 1, 1) := by decide +kernel
theorem dX0_depthsShowing_34 : decode cX0_depthsShowing 34 = .ok (.iload_n 3, 1) := by decide +kernel
theorem dX0_depthsShowing_35 : decode cX0_depthsShowing 35 = .ok (.ishl, 1) := by decide +kernel
theorem dX0_depthsShowing_36 : decode cX0_depthsShowing 36 = .ok (.ireturn, 1) := by decide +kernel
theorem dX0_nextLook_0 : decode cX0_nextLook 0 = .ok (.aload_n 0, 1) := by decide +kernel
theorem dX0_nextLook_1 : decode cX0_nextLook 1 = .ok (.aload_n 1, 1) := by decide +kernel
theorem dX0_nextLook_2 : decode cX0_nextLook 2 = .ok (.iload_n 2, 1) := by decide +kernel
theorem dX0_nextLook_3 : decode cX0_nextLook 3 = .ok (.iload_n 3, 1) := by decide +kernel
theorem dX0_nextLook_4 : decode cX0_nextLook 4 = .ok (.invokevirtual 72, 3) := by decide +kernel
theorem dX0_nextLook_7 : decode cX0_nextLook 7 = .ok (.istore 5, 2) := by decide +kernel
theorem dX0_nextLook_9 : decode cX0_nextLook 9 = .ok (.iload_n 3, 1) := by decide +kernel
theorem dX0_nextLook_10 : decode cX0_nextLook 10 = .ok (.aload_n 0, 1) := by decide +kernel
theorem dX0_nextLook_11 : decode cX0_nextLook 11 = .ok (.getfield 22, 3) := by decide +kernel
theorem dX0_nextLook_14 : decode cX0_nextLook 14 = .ok (.iconst (-1), 1) := by decide +kernel
theorem dX0_nextLook_15 : decode cX0_nextLook 15 = .ok (.ixor, 1) := by decide +kernel
theorem dX0_nextLook_16 : decode cX0_nextLook 16 = .ok (.iand, 1) := by decide +kernel
theorem dX0_nextLook_17 : decode cX0_nextLook 17 = .ok (.istore 6, 2) := by decide +kernel
theorem dX0_nextLook_19 : decode cX0_nextLook 19 = .ok (.iconst (-1), 1) := by decide +kernel
theorem dX0_nextLook_20 : decode cX0_nextLook 20 = .ok (.istore 7, 2) := by decide +kernel
theorem dX0_nextLook_22 : decode cX0_nextLook 22 = .ok (.iconst (-1), 1) := by decide +kernel
theorem dX0_nextLook_23 : decode cX0_nextLook 23 = .ok (.istore 8, 2) := by decide +kernel
theorem dX0_nextLook_25 : decode cX0_nextLook 25 = .ok (.iconst 0, 1) := by decide +kernel
theorem dX0_nextLook_26 : decode cX0_nextLook 26 = .ok (.istore 9, 2) := by decide +kernel
theorem dX0_nextLook_28 : decode cX0_nextLook 28 = .ok (.iload 9, 2) := by decide +kernel
theorem dX0_nextLook_30 : decode cX0_nextLook 30 = .ok (.bipush 16, 2) := by decide +kernel
theorem dX0_nextLook_32 : decode cX0_nextLook 32 = .ok (.if_icmp .ge 60, 3) := by decide +kernel
theorem dX0_nextLook_35 : decode cX0_nextLook 35 = .ok (.iload 6, 2) := by decide +kernel
theorem dX0_nextLook_37 : decode cX0_nextLook 37 = .ok (.iload 9, 2) := by decide +kernel
theorem dX0_nextLook_39 : decode cX0_nextLook 39 = .ok (.ishr, 1) := by decide +kernel
theorem dX0_nextLook_40 : decode cX0_nextLook 40 = .ok (.iconst 1, 1) := by decide +kernel
theorem dX0_nextLook_41 : decode cX0_nextLook 41 = .ok (.iand, 1) := by decide +kernel
theorem dX0_nextLook_42 : decode cX0_nextLook 42 = .ok (.iconst 1, 1) := by decide +kernel
theorem dX0_nextLook_43 : decode cX0_nextLook 43 = .ok (.if_icmp .ne 43, 3) := by decide +kernel
theorem dX0_nextLook_46 : decode cX0_nextLook 46 = .ok (.iload 5, 2) := by decide +kernel
theorem dX0_nextLook_48 : decode cX0_nextLook 48 = .ok (.aload_n 1, 1) := by decide +kernel
theorem dX0_nextLook_49 : decode cX0_nextLook 49 = .ok (.getfield 64, 3) := by decide +kernel
theorem dX0_nextLook_52 : decode cX0_nextLook 52 = .ok (.bipush 16, 2) := by decide +kernel
theorem dX0_nextLook_54 : decode cX0_nextLook 54 = .ok (.iload_n 2, 1) := by decide +kernel
theorem dX0_nextLook_55 : decode cX0_nextLook 55 = .ok (.imul, 1) := by decide +kernel
theorem dX0_nextLook_56 : decode cX0_nextLook 56 = .ok (.iload 9, 2) := by decide +kernel
theorem dX0_nextLook_58 : decode cX0_nextLook 58 = .ok (.iadd, 1) := by decide +kernel
theorem dX0_nextLook_59 : decode cX0_nextLook 59 = .ok (.iaload, 1) := by decide +kernel
theorem dX0_nextLook_60 : decode cX0_nextLook 60 = .ok (.invokestatic 75, 3) := by decide +kernel
theorem dX0_nextLook_63 : decode cX0_nextLook 63 = .ok (.istore 10, 2) := by decide +kernel
theorem dX0_nextLook_65 : decode cX0_nextLook 65 = .ok (.iload 7, 2) := by decide +kernel
theorem dX0_nextLook_67 : decode cX0_nextLook 67 = .ok (.iconst (-1), 1) := by decide +kernel
theorem dX0_nextLook_68 : decode cX0_nextLook 68 = .ok (.if_icmp .eq 10, 3) := by decide +kernel
theorem dX0_nextLook_71 : decode cX0_nextLook 71 = .ok (.iload 10, 2) := by decide +kernel
theorem dX0_nextLook_73 : decode cX0_nextLook 73 = .ok (.iload 8, 2) := by decide +kernel
theorem dX0_nextLook_75 : decode cX0_nextLook 75 = .ok (.if_icmp .ge 11, 3) := by decide +kernel
theorem dX0_nextLook_78 : decode cX0_nextLook 78 = .ok (.iload 9, 2) := by decide +kernel
theorem dX0_nextLook_80 : decode cX0_nextLook 80 = .ok (.istore 7, 2) := by decide +kernel
theorem dX0_nextLook_82 : decode cX0_nextLook 82 = .ok (.iload 10, 2) := by decide +kernel
theorem dX0_nextLook_84 : decode cX0_nextLook 84 = .ok (.istore 8, 2) := by decide +kernel
theorem dX0_nextLook_86 : decode cX0_nextLook 86 = .ok (.iinc 9 1, 3) := by decide +kernel
theorem dX0_nextLook_89 : decode cX0_nextLook 89 = .ok (.goto (-61), 3) := by decide +kernel
theorem dX0_nextLook_92 : decode cX0_nextLook 92 = .ok (.iload 4, 2) := by decide +kernel
theorem dX0_nextLook_94 : decode cX0_nextLook 94 = .ok (.ifCond .eq 8, 3) := by decide +kernel
theorem dX0_nextLook_97 : decode cX0_nextLook 97 = .ok (.iload 8, 2) := by decide +kernel
theorem dX0_nextLook_99 : decode cX0_nextLook 99 = .ok (.goto 5, 3) := by decide +kernel
theorem dX0_nextLook_102 : decode cX0_nextLook 102 = .ok (.iload 7, 2) := by decide +kernel
theorem dX0_nextLook_104 : decode cX0_nextLook 104 = .ok (.ireturn, 1) := by decide +kernel
theorem dX0_leftAtWorst_0 : decode cX0_leftAtWorst 0 = .ok (.iload_n 0, 1) := by decide +kernel
theorem dX0_leftAtWorst_1 : decode cX0_leftAtWorst 1 = .ok (.iconst 1, 1) := by decide +kernel
theorem dX0_leftAtWorst_2 : decode cX0_leftAtWorst 2 = .ok (.iload_n 1, 1) := by decide +kernel
theorem dX0_leftAtWorst_3 : decode cX0_leftAtWorst 3 = .ok (.ishl, 1) := by decide +kernel
theorem dX0_leftAtWorst_4 : decode cX0_leftAtWorst 4 = .ok (.ineg, 1) := by decide +kernel
theorem dX0_leftAtWorst_5 : decode cX0_leftAtWorst 5 = .ok (.iand, 1) := by decide +kernel
theorem dX0_leftAtWorst_6 : decode cX0_leftAtWorst 6 = .ok (.istore_n 2, 1) := by decide +kernel
theorem dX0_leftAtWorst_7 : decode cX0_leftAtWorst 7 = .ok (.iload_n 0, 1) := by decide +kernel
theorem dX0_leftAtWorst_8 : decode cX0_leftAtWorst 8 = .ok (.iload_n 2, 1) := by decide +kernel
theorem dX0_leftAtWorst_9 : decode cX0_leftAtWorst 9 = .ok (.iconst (-1), 1) := by decide +kernel
theorem dX0_leftAtWorst_10 : decode cX0_leftAtWorst 10 = .ok (.ixor, 1) := by decide +kernel
theorem dX0_leftAtWorst_11 : decode cX0_leftAtWorst 11 = .ok (.iand, 1) := by decide +kernel
theorem dX0_leftAtWorst_12 : decode cX0_leftAtWorst 12 = .ok (.istore_n 3, 1) := by decide +kernel
theorem dX0_leftAtWorst_13 : decode cX0_leftAtWorst 13 = .ok (.iload_n 2, 1) := by decide +kernel
theorem dX0_leftAtWorst_14 : decode cX0_leftAtWorst 14 = .ok (.invokestatic 78, 3) := by decide +kernel
theorem dX0_leftAtWorst_17 : decode cX0_leftAtWorst 17 = .ok (.iload_n 3, 1) := by decide +kernel
theorem dX0_leftAtWorst_18 : decode cX0_leftAtWorst 18 = .ok (.ifCond .ne 7, 3) := by decide +kernel
theorem dX0_leftAtWorst_21 : decode cX0_leftAtWorst 21 = .ok (.iconst 0, 1) := by decide +kernel
theorem dX0_leftAtWorst_22 : decode cX0_leftAtWorst 22 = .ok (.goto 4, 3) := by decide +kernel
theorem dX0_leftAtWorst_25 : decode cX0_leftAtWorst 25 = .ok (.iconst 1, 1) := by decide +kernel
theorem dX0_leftAtWorst_26 : decode cX0_leftAtWorst 26 = .ok (.invokestatic 84, 3) := by decide +kernel
theorem dX0_leftAtWorst_29 : decode cX0_leftAtWorst 29 = .ok (.ireturn, 1) := by decide +kernel
theorem dX1_init_0 : decode cX1_init 0 = .ok (.aload_n 0, 1) := by decide +kernel
theorem dX1_init_1 : decode cX1_init 1 = .ok (.invokespecial 3, 3) := by decide +kernel
theorem dX1_init_4 : decode cX1_init 4 = .ok (.aload_n 0, 1) := by decide +kernel
theorem dX1_init_5 : decode cX1_init 5 = .ok (.sipush 201, 3) := by decide +kernel
theorem dX1_init_8 : decode cX1_init 8 = .ok (.newarray .int, 2) := by decide +kernel
theorem dX1_init_10 : decode cX1_init 10 = .ok (.putfield 9, 3) := by decide +kernel
theorem dX1_init_13 : decode cX1_init 13 = .ok (.aload_n 0, 1) := by decide +kernel
theorem dX1_init_14 : decode cX1_init 14 = .ok (.bipush 16, 2) := by decide +kernel
theorem dX1_init_16 : decode cX1_init 16 = .ok (.newarray .int, 2) := by decide +kernel
theorem dX1_init_18 : decode cX1_init 18 = .ok (.putfield 15, 3) := by decide +kernel
theorem dX1_init_21 : decode cX1_init 21 = .ok (.return_, 1) := by decide +kernel
theorem dX1_circleAt_0 : decode cX1_circleAt 0 = .ok (.iconst 0, 1) := by decide +kernel
theorem dX1_circleAt_1 : decode cX1_circleAt 1 = .ok (.istore_n 3, 1) := by decide +kernel
theorem dX1_circleAt_2 : decode cX1_circleAt 2 = .ok (.iconst 0, 1) := by decide +kernel
theorem dX1_circleAt_3 : decode cX1_circleAt 3 = .ok (.istore 4, 2) := by decide +kernel
theorem dX1_circleAt_5 : decode cX1_circleAt 5 = .ok (.iload 4, 2) := by decide +kernel
theorem dX1_circleAt_7 : decode cX1_circleAt 7 = .ok (.bipush 16, 2) := by decide +kernel
theorem dX1_circleAt_9 : decode cX1_circleAt 9 = .ok (.if_icmp .ge 39, 3) := by decide +kernel
theorem dX1_circleAt_12 : decode cX1_circleAt 12 = .ok (.iload 4, 2) := by decide +kernel
theorem dX1_circleAt_14 : decode cX1_circleAt 14 = .ok (.iconst 3, 1) := by decide +kernel
theorem dX1_circleAt_15 : decode cX1_circleAt 15 = .ok (.iand, 1) := by decide +kernel
theorem dX1_circleAt_16 : decode cX1_circleAt 16 = .ok (.iload_n 0, 1) := by decide +kernel
theorem dX1_circleAt_17 : decode cX1_circleAt 17 = .ok (.isub, 1) := by decide +kernel
theorem dX1_circleAt_18 : decode cX1_circleAt 18 = .ok (.invokestatic 18, 3) := by decide +kernel
theorem dX1_circleAt_21 : decode cX1_circleAt 21 = .ok (.iload 4, 2) := by decide +kernel
theorem dX1_circleAt_23 : decode cX1_circleAt 23 = .ok (.iconst 2, 1) := by decide +kernel
theorem dX1_circleAt_24 : decode cX1_circleAt 24 = .ok (.ishr, 1) := by decide +kernel
theorem dX1_circleAt_25 : decode cX1_circleAt 25 = .ok (.iload_n 1, 1) := by decide +kernel
theorem dX1_circleAt_26 : decode cX1_circleAt 26 = .ok (.isub, 1) := by decide +kernel
theorem dX1_circleAt_27 : decode cX1_circleAt 27 = .ok (.invokestatic 18, 3) := by decide +kernel
theorem dX1_circleAt_30 : decode cX1_circleAt 30 = .ok (.iadd, 1) := by decide +kernel
theorem dX1_circleAt_31 : decode cX1_circleAt 31 = .ok (.iload_n 2, 1) := by decide +kernel
theorem dX1_circleAt_32 : decode cX1_circleAt 32 = .ok (.if_icmp .gt 10, 3) := by decide +kernel
theorem dX1_circleAt_35 : decode cX1_circleAt 35 = .ok (.iload_n 3, 1) := by decide +kernel
theorem dX1_circleAt_36 : decode cX1_circleAt 36 = .ok (.iconst 1, 1) := by decide +kernel
theorem dX1_circleAt_37 : decode cX1_circleAt 37 = .ok (.iload 4, 2) := by decide +kernel
theorem dX1_circleAt_39 : decode cX1_circleAt 39 = .ok (.ishl, 1) := by decide +kernel
theorem dX1_circleAt_40 : decode cX1_circleAt 40 = .ok (.ior, 1) := by decide +kernel
theorem dX1_circleAt_41 : decode cX1_circleAt 41 = .ok (.istore_n 3, 1) := by decide +kernel
theorem dX1_circleAt_42 : decode cX1_circleAt 42 = .ok (.iinc 4 1, 3) := by decide +kernel
theorem dX1_circleAt_45 : decode cX1_circleAt 45 = .ok (.goto (-40), 3) := by decide +kernel
theorem dX1_circleAt_48 : decode cX1_circleAt 48 = .ok (.iload_n 3, 1) := by decide +kernel
theorem dX1_circleAt_49 : decode cX1_circleAt 49 = .ok (.ireturn, 1) := by decide +kernel
theorem dX1_cellsHaving_0 : decode cX1_cellsHaving 0 = .ok (.iconst 0, 1) := by decide +kernel
theorem dX1_cellsHaving_1 : decode cX1_cellsHaving 1 = .ok (.istore 4, 2) := by decide +kernel
theorem dX1_cellsHaving_3 : decode cX1_cellsHaving 3 = .ok (.iconst 0, 1) := by decide +kernel
theorem dX1_cellsHaving_4 : decode cX1_cellsHaving 4 = .ok (.istore 5, 2) := by decide +kernel
theorem dX1_cellsHaving_6 : decode cX1_cellsHaving 6 = .ok (.iload 5, 2) := by decide +kernel
theorem dX1_cellsHaving_8 : decode cX1_cellsHaving 8 = .ok (.bipush 16, 2) := by decide +kernel
theorem dX1_cellsHaving_10 : decode cX1_cellsHaving 10 = .ok (.if_icmp .ge 34, 3) := by decide +kernel
theorem dX1_cellsHaving_13 : decode cX1_cellsHaving 13 = .ok (.aload_n 1, 1) := by decide +kernel
theorem dX1_cellsHaving_14 : decode cX1_cellsHaving 14 = .ok (.bipush 16, 2) := by decide +kernel
theorem dX1_cellsHaving_16 : decode cX1_cellsHaving 16 = .ok (.iload_n 2, 1) := by decide +kernel
theorem dX1_cellsHaving_17 : decode cX1_cellsHaving 17 = .ok (.imul, 1) := by decide +kernel
theorem dX1_cellsHaving_18 : decode cX1_cellsHaving 18 = .ok (.iload 5, 2) := by decide +kernel
theorem dX1_cellsHaving_20 : decode cX1_cellsHaving 20 = .ok (.iadd, 1) := by decide +kernel
theorem dX1_cellsHaving_21 : decode cX1_cellsHaving 21 = .ok (.iload_n 3, 1) := by decide +kernel
theorem dX1_cellsHaving_22 : decode cX1_cellsHaving 22 = .ok (.invokevirtual 24, 3) := by decide +kernel
theorem dX1_cellsHaving_25 : decode cX1_cellsHaving 25 = .ok (.iconst (-1), 1) := by decide +kernel
theorem dX1_cellsHaving_26 : decode cX1_cellsHaving 26 = .ok (.if_icmp .eq 12, 3) := by decide +kernel
theorem dX1_cellsHaving_29 : decode cX1_cellsHaving 29 = .ok (.iload 4, 2) := by decide +kernel
theorem dX1_cellsHaving_31 : decode cX1_cellsHaving 31 = .ok (.iconst 1, 1) := by decide +kernel
theorem dX1_cellsHaving_32 : decode cX1_cellsHaving 32 = .ok (.iload 5, 2) := by decide +kernel
theorem dX1_cellsHaving_34 : decode cX1_cellsHaving 34 = .ok (.ishl, 1) := by decide +kernel
theorem dX1_cellsHaving_35 : decode cX1_cellsHaving 35 = .ok (.ior, 1) := by decide +kernel
theorem dX1_cellsHaving_36 : decode cX1_cellsHaving 36 = .ok (.istore 4, 2) := by decide +kernel
theorem dX1_cellsHaving_38 : decode cX1_cellsHaving 38 = .ok (.iinc 5 1, 3) := by decide +kernel
theorem dX1_cellsHaving_41 : decode cX1_cellsHaving 41 = .ok (.goto (-35), 3) := by decide +kernel
theorem dX1_cellsHaving_44 : decode cX1_cellsHaving 44 = .ok (.iload 4, 2) := by decide +kernel
theorem dX1_cellsHaving_46 : decode cX1_cellsHaving 46 = .ok (.ireturn, 1) := by decide +kernel
theorem dX1_cellsShowing_0 : decode cX1_cellsShowing 0 = .ok (.iconst 0, 1) := by decide +kernel
theorem dX1_cellsShowing_1 : decode cX1_cellsShowing 1 = .ok (.istore 5, 2) := by decide +kernel
theorem dX1_cellsShowing_3 : decode cX1_cellsShowing 3 = .ok (.iconst 0, 1) := by decide +kernel
theorem dX1_cellsShowing_4 : decode cX1_cellsShowing 4 = .ok (.istore 6, 2) := by decide +kernel
theorem dX1_cellsShowing_6 : decode cX1_cellsShowing 6 = .ok (.iload 6, 2) := by decide +kernel
theorem dX1_cellsShowing_8 : decode cX1_cellsShowing 8 = .ok (.bipush 16, 2) := by decide +kernel
theorem dX1_cellsShowing_10 : decode cX1_cellsShowing 10 = .ok (.if_icmp .ge 34, 3) := by decide +kernel
theorem dX1_cellsShowing_13 : decode cX1_cellsShowing 13 = .ok (.aload_n 1, 1) := by decide +kernel
theorem dX1_cellsShowing_14 : decode cX1_cellsShowing 14 = .ok (.bipush 16, 2) := by decide +kernel
theorem dX1_cellsShowing_16 : decode cX1_cellsShowing 16 = .ok (.iload_n 2, 1) := by decide +kernel
theorem dX1_cellsShowing_17 : decode cX1_cellsShowing 17 = .ok (.imul, 1) := by decide +kernel
theorem dX1_cellsShowing_18 : decode cX1_cellsShowing 18 = .ok (.iload 6, 2) := by decide +kernel
theorem dX1_cellsShowing_20 : decode cX1_cellsShowing 20 = .ok (.iadd, 1) := by decide +kernel
theorem dX1_cellsShowing_21 : decode cX1_cellsShowing 21 = .ok (.invokevirtual 30, 3) := by decide +kernel
theorem dX1_cellsShowing_24 : decode cX1_cellsShowing 24 = .ok (.iload 4, 2) := by decide +kernel
theorem dX1_cellsShowing_26 : decode cX1_cellsShowing 26 = .ok (.if_icmp .ne 12, 3) := by decide +kernel
theorem dX1_cellsShowing_29 : decode cX1_cellsShowing 29 = .ok (.iload 5, 2) := by decide +kernel
theorem dX1_cellsShowing_31 : decode cX1_cellsShowing 31 = .ok (.iconst 1, 1) := by decide +kernel
theorem dX1_cellsShowing_32 : decode cX1_cellsShowing 32 = .ok (.iload 6, 2) := by decide +kernel
theorem dX1_cellsShowing_34 : decode cX1_cellsShowing 34 = .ok (.ishl, 1) := by decide +kernel
theorem dX1_cellsShowing_35 : decode cX1_cellsShowing 35 = .ok (.ior, 1) := by decide +kernel
theorem dX1_cellsShowing_36 : decode cX1_cellsShowing 36 = .ok (.istore 5, 2) := by decide +kernel
theorem dX1_cellsShowing_38 : decode cX1_cellsShowing 38 = .ok (.iinc 6 1, 3) := by decide +kernel
theorem dX1_cellsShowing_41 : decode cX1_cellsShowing 41 = .ok (.goto (-35), 3) := by decide +kernel
theorem dX1_cellsShowing_44 : decode cX1_cellsShowing 44 = .ok (.iload 5, 2) := by decide +kernel
theorem dX1_cellsShowing_46 : decode cX1_cellsShowing 46 = .ok (.iload_n 3, 1) := by decide +kernel
theorem dX1_cellsShowing_47 : decode cX1_cellsShowing 47 = .ok (.iand, 1) := by decide +kernel
theorem dX1_cellsShowing_48 : decode cX1_cellsShowing 48 = .ok (.ireturn, 1) := by decide +kernel
theorem dX1_costOf_0 : decode cX1_costOf 0 = .ok (.iload_n 3, 1) := by decide +kernel
theorem dX1_costOf_1 : decode cX1_costOf 1 = .ok (.ifCond .ne 7, 3) := by decide +kernel
theorem dX1_costOf_4 : decode cX1_costOf 4 = .ok (.iconst (-1), 1) := by decide +kernel
theorem dX1_costOf_5 : decode cX1_costOf 5 = .ok (.goto 4, 3) := by decide +kernel
theorem dX1_costOf_8 : decode cX1_costOf 8 = .ok (.iconst 0, 1) := by decide +kernel
theorem dX1_costOf_9 : decode cX1_costOf 9 = .ok (.istore 5, 2) := by decide +kernel
theorem dX1_costOf_11 : decode cX1_costOf 11 = .ok (.iconst 0, 1) := by decide +kernel
theorem dX1_costOf_12 : decode cX1_costOf 12 = .ok (.istore 6, 2) := by decide +kernel
theorem dX1_costOf_14 : decode cX1_costOf 14 = .ok (.iload 6, 2) := by decide +kernel
theorem dX1_costOf_16 : decode cX1_costOf 16 = .ok (.bipush 16, 2) := by decide +kernel
theorem dX1_costOf_18 : decode cX1_costOf 18 = .ok (.if_icmp .ge 57, 3) := by decide +kernel
theorem dX1_costOf_21 : decode cX1_costOf 21 = .ok (.iload 5, 2) := by decide +kernel
theorem dX1_costOf_23 : decode cX1_costOf 23 = .ok (.iconst (-1), 1) := by decide +kernel
theorem dX1_costOf_24 : decode cX1_costOf 24 = .ok (.if_icmp .eq 51, 3) := by decide +kernel
theorem dX1_costOf_27 : decode cX1_costOf 27 = .ok (.iload_n 3, 1) := by decide +kernel
theorem dX1_costOf_28 : decode cX1_costOf 28 = .ok (.iload 6, 2) := by decide +kernel
theorem dX1_costOf_30 : decode cX1_costOf 30 = .ok (.ishr, 1) := by decide +kernel
theorem dX1_costOf_31 : decode cX1_costOf 31 = .ok (.iconst 1, 1) := by decide +kernel
theorem dX1_costOf_32 : decode cX1_costOf 32 = .ok (.iand, 1) := by decide +kernel
theorem dX1_costOf_33 : decode cX1_costOf 33 = .ok (.iconst 1, 1) := by decide +kernel
theorem dX1_costOf_34 : decode cX1_costOf 34 = .ok (.if_icmp .ne 35, 3) := by decide +kernel
theorem dX1_costOf_37 : decode cX1_costOf 37 = .ok (.aload_n 1, 1) := by decide +kernel
theorem dX1_costOf_38 : decode cX1_costOf 38 = .ok (.bipush 16, 2) := by decide +kernel
theorem dX1_costOf_40 : decode cX1_costOf 40 = .ok (.iload_n 2, 1) := by decide +kernel
theorem dX1_costOf_41 : decode cX1_costOf 41 = .ok (.imul, 1) := by decide +kernel
theorem dX1_costOf_42 : decode cX1_costOf 42 = .ok (.iload 6, 2) := by decide +kernel
theorem dX1_costOf_44 : decode cX1_costOf 44 = .ok (.iadd, 1) := by decide +kernel
theorem dX1_costOf_45 : decode cX1_costOf 45 = .ok (.iload 4, 2) := by decide +kernel
theorem dX1_costOf_47 : decode cX1_costOf 47 = .ok (.invokevirtual 24, 3) := by decide +kernel
theorem dX1_costOf_50 : decode cX1_costOf 50 = .ok (.istore 7, 2) := by decide +kernel
theorem dX1_costOf_52 : decode cX1_costOf 52 = .ok (.iload 7, 2) := by decide +kernel
theorem dX1_costOf_54 : decode cX1_costOf 54 = .ok (.iconst (-1), 1) := by decide +kernel
theorem dX1_costOf_55 : decode cX1_costOf 55 = .ok (.if_icmp .ne 7, 3) := by decide +kernel
theorem dX1_costOf_58 : decode cX1_costOf 58 = .ok (.iconst (-1), 1) := by decide +kernel
theorem dX1_costOf_59 : decode cX1_costOf 59 = .ok (.goto 8, 3) := by decide +kernel
theorem dX1_costOf_62 : decode cX1_costOf 62 = .ok (.iload 5, 2) := by decide +kernel
theorem dX1_costOf_64 : decode cX1_costOf 64 = .ok (.iload 7, 2) := by decide +kernel
theorem dX1_costOf_66 : decode cX1_costOf 66 = .ok (.iadd, 1) := by decide +kernel
theorem dX1_costOf_67 : decode cX1_costOf 67 = .ok (.istore 5, 2) := by decide +kernel
theorem dX1_costOf_69 : decode cX1_costOf 69 = .ok (.iinc 6 1, 3) := by decide +kernel
theorem dX1_costOf_72 : decode cX1_costOf 72 = .ok (.goto (-58), 3) := by decide +kernel
theorem dX1_costOf_75 : decode cX1_costOf 75 = .ok (.iload 5, 2) := by decide +kernel
theorem dX1_costOf_77 : decode cX1_costOf 77 = .ok (.ireturn, 1) := by decide +kernel
theorem dX1_bestDay_0 : decode cX1_bestDay 0 = .ok (.iconst 0, 1) := by decide +kernel
theorem dX1_bestDay_1 : decode cX1_bestDay 1 = .ok (.istore 4, 2) := by decide +kernel
theorem dX1_bestDay_3 : decode cX1_bestDay 3 = .ok (.iload 4, 2) := by decide +kernel
theorem dX1_bestDay_5 : decode cX1_bestDay 5 = .ok (.bipush 15, 2) := by decide +kernel
theorem dX1_bestDay_7 : decode cX1_bestDay 7 = .ok (.if_icmp .ge 18, 3) := by decide +kernel
theorem dX1_bestDay_10 : decode cX1_bestDay 10 = .ok (.iload_n 3, 1) := by decide +kernel
theorem dX1_bestDay_11 : decode cX1_bestDay 11 = .ok (.iload 4, 2) := by decide +kernel
theorem dX1_bestDay_13 : decode cX1_bestDay 13 = .ok (.ishr, 1) := by decide +kernel
theorem dX1_bestDay_14 : decode cX1_bestDay 14 = .ok (.iconst 1, 1) := by decide +kernel
theorem dX1_bestDay_15 : decode cX1_bestDay 15 = .ok (.iand, 1) := by decide +kernel
theorem dX1_bestDay_16 : decode cX1_bestDay 16 = .ok (.ifCond .ne 9, 3) := by decide +kernel
theorem dX1_bestDay_19 : decode cX1_bestDay 19 = .ok (.iinc 4 1, 3) := by decide +kernel
theorem dX1_bestDay_22 : decode cX1_bestDay 22 = .ok (.goto (-19), 3) := by decide +kernel
theorem dX1_bestDay_25 : decode cX1_bestDay 25 = .ok (.bipush 16, 2) := by decide +kernel
theorem dX1_bestDay_27 : decode cX1_bestDay 27 = .ok (.iload_n 2, 1) := by decide +kernel
theorem dX1_bestDay_28 : decode cX1_bestDay 28 = .ok (.imul, 1) := by decide +kernel
theorem dX1_bestDay_29 : decode cX1_bestDay 29 = .ok (.iload 4, 2) := by decide +kernel
theorem dX1_bestDay_31 : decode cX1_bestDay 31 = .ok (.iadd, 1) := by decide +kernel
theorem dX1_bestDay_32 : decode cX1_bestDay 32 = .ok (.istore 5, 2) := by decide +kernel
theorem dX1_bestDay_34 : decode cX1_bestDay 34 = .ok (.iconst 0, 1) := by decide +kernel
theorem dX1_bestDay_35 : decode cX1_bestDay 35 = .ok (.istore 6, 2) := by decide +kernel
theorem dX1_bestDay_37 : decode cX1_bestDay 37 = .ok (.iload 6, 2) := by decide +kernel
theorem dX1_bestDay_39 : decode cX1_bestDay 39 = .ok (.aload_n 1, 1) := by decide +kernel
theorem dX1_bestDay_40 : decode cX1_bestDay 40 = .ok (.getfield 33, 3) := by decide +kernel
theorem dX1_bestDay_43 : decode cX1_bestDay 43 = .ok (.iload 5, 2) := by decide +kernel
theorem dX1_bestDay_45 : decode cX1_bestDay 45 = .ok (.iaload, 1) := by decide +kernel
theorem dX1_bestDay_46 : decode cX1_bestDay 46 = .ok (.if_icmp .ge 35, 3) := by decide +kernel
theorem dX1_bestDay_49 : decode cX1_bestDay 49 = .ok (.aload_n 1, 1) := by decide +kernel
theorem dX1_bestDay_50 : decode cX1_bestDay 50 = .ok (.iload 5, 2) := by decide +kernel
theorem dX1_bestDay_52 : decode cX1_bestDay 52 = .ok (.iload 6, 2) := by decide +kernel
theorem dX1_bestDay_54 : decode cX1_bestDay 54 = .ok (.invokevirtual 36, 3) := by decide +kernel
theorem dX1_bestDay_57 : decode cX1_bestDay 57 = .ok (.istore 7, 2) := by decide +kernel
theorem dX1_bestDay_59 : decode cX1_bestDay 59 = .ok (.aload_n 0, 1) := by decide +kernel
theorem dX1_bestDay_60 : decode cX1_bestDay 60 = .ok (.aload_n 1, 1) := by decide +kernel
theorem dX1_bestDay_61 : decode cX1_bestDay 61 = .ok (.iload_n 2, 1) := by decide +kernel
theorem dX1_bestDay_62 : decode cX1_bestDay 62 = .ok (.iload_n 3, 1) := by decide +kernel
theorem dX1_bestDay_63 : decode cX1_bestDay 63 = .ok (.iload 7, 2) := by decide +kernel
theorem dX1_bestDay_65 : decode cX1_bestDay 65 = .ok (.invokevirtual 39, 3) := by decide +kernel
theorem dX1_bestDay_68 : decode cX1_bestDay 68 = .ok (.iconst (-1), 1) := by decide +kernel
theorem dX1_bestDay_69 : decode cX1_bestDay 69 = .ok (.if_icmp .eq 6, 3) := by decide +kernel
theorem dX1_bestDay_72 : decode cX1_bestDay 72 = .ok (.iload 7, 2) := by decide +kernel
theorem dX1_bestDay_74 : decode cX1_bestDay 74 = .ok (.ireturn, 1) := by decide +kernel
theorem dX1_bestDay_75 : decode cX1_bestDay 75 = .ok (.iinc 6 1, 3) := by decide +kernel
theorem dX1_bestDay_78 : decode cX1_bestDay 78 = .ok (.goto (-41), 3) := by decide +kernel
theorem dX1_bestDay_81 : decode cX1_bestDay 81 = .ok (.iconst (-1), 1) := by decide +kernel
theorem dX1_bestDay_82 : decode cX1_bestDay 82 = .ok (.ireturn, 1) := by decide +kernel
theorem dX1_countSeams_0 : decode cX1_countSeams 0 = .ok (.iconst 0, 1) := by decide +kernel
theorem dX1_countSeams_1 : decode cX1_countSeams 1 = .ok (.istore 4, 2) := by decide +kernel
theorem dX1_countSeams_3 : decode cX1_countSeams 3 = .ok (.iconst 0, 1) := by decide +kernel
theorem dX1_countSeams_4 : decode cX1_countSeams 4 = .ok (.istore 5, 2) := by decide +kernel
theorem dX1_countSeams_6 : decode cX1_countSeams 6 = .ok (.iload 5, 2) := by decide +kernel
theorem dX1_countSeams_8 : decode cX1_countSeams 8 = .ok (.bipush 16, 2) := by decide +kernel
theorem dX1_countSeams_10 : decode cX1_countSeams 10 = .ok (.if_icmp .ge 123, 3) := by decide +kernel
theorem dX1_countSeams_13 : decode cX1_countSeams 13 = .ok (.iload_n 3, 1) := by decide +kernel
theorem dX1_countSeams_14 : decode cX1_countSeams 14 = .ok (.iload 5, 2) := by decide +kernel
theorem dX1_countSeams_16 : decode cX1_countSeams 16 = .ok (.ishr, 1) := by decide +kernel
theorem dX1_countSeams_17 : decode cX1_countSeams 17 = .ok (.iconst 1, 1) := by decide +kernel
theorem dX1_countSeams_18 : decode cX1_countSeams 18 = .ok (.iand, 1) := by decide +kernel
theorem dX1_countSeams_19 : decode cX1_countSeams 19 = .ok (.iconst 1, 1) := by decide +kernel
theorem dX1_countSeams_20 : decode cX1_countSeams 20 = .ok (.if_icmp .ne 107, 3) := by decide +kernel
theorem dX1_countSeams_23 : decode cX1_countSeams 23 = .ok (.iload 5, 2) := by decide +kernel
theorem dX1_countSeams_25 : decode cX1_countSeams 25 = .ok (.iconst 3, 1) := by decide +kernel
theorem dX1_countSeams_26 : decode cX1_countSeams 26 = .ok (.iand, 1) := by decide +kernel
theorem dX1_countSeams_27 : decode cX1_countSeams 27 = .ok (.iconst 3, 1) := by decide +kernel
theorem dX1_countSeams_28 : decode cX1_countSeams 28 = .ok (.if_icmp .ge 19, 3) := by decide +kernel
theorem dX1_countSeams_31 : decode cX1_countSeams 31 = .ok (.iload_n 3, 1) := by decide +kernel
theorem dX1_countSeams_32 : decode cX1_countSeams 32 = .ok (.iload 5, 2) := by decide +kernel
theorem dX1_countSeams_34 : decode cX1_countSeams 34 = .ok (.iconst 1, 1) := by decide +kernel
theorem dX1_countSeams_35 : decode cX1_countSeams 35 = .ok (.iadd, 1) := by decide +kernel
theorem dX1_countSeams_36 : decode cX1_countSeams 36 = .ok (.ishr, 1) := by decide +kernel
theorem dX1_countSeams_37 : decode cX1_countSeams 37 = .ok (.iconst 1, 1) := by decide +kernel
theorem dX1_countSeams_38 : decode cX1_countSeams 38 = .ok (.iand, 1) := by decide +kernel
theorem dX1_countSeams_39 : decode cX1_countSeams 39 = .ok (.iconst 1, 1) := by decide +kernel
theorem dX1_countSeams_40 : decode cX1_countSeams 40 = .ok (.if_icmp .ne 7, 3) := by decide +kernel
theorem dX1_countSeams_43 : decode cX1_countSeams 43 = .ok (.iconst 1, 1) := by decide +kernel
theorem dX1_countSeams_44 : decode cX1_countSeams 44 = .ok (.goto 4, 3) := by decide +kernel
theorem dX1_countSeams_47 : decode cX1_countSeams 47 = .ok (.iconst 0, 1) := by decide +kernel
theorem dX1_countSeams_48 : decode cX1_countSeams 48 = .ok (.istore 6, 2) := by decide +kernel
theorem dX1_countSeams_50 : decode cX1_countSeams 50 = .ok (.iload_n 3, 1) := by decide +kernel
theorem dX1_countSeams_51 : decode cX1_countSeams 51 = .ok (.iload 5, 2) := by decide +kernel
theorem dX1_countSeams_53 : decode cX1_countSeams 53 = .ok (.iconst 4, 1) := by decide +kernel
theorem dX1_countSeams_54 : decode cX1_countSeams 54 = .ok (.iadd, 1) := by decide +kernel
theorem dX1_countSeams_55 : decode cX1_countSeams 55 = .ok (.ishr, 1) := by decide +kernel
theorem dX1_countSeams_56 : decode cX1_countSeams 56 = .ok (.iconst 1, 1) := by decide +kernel
theorem dX1_countSeams_57 : decode cX1_countSeams 57 = .ok (.iand, 1) := by decide +kernel
theorem dX1_countSeams_58 : decode cX1_countSeams 58 = .ok (.iconst 1, 1) := by decide +kernel
theorem dX1_countSeams_59 : decode cX1_countSeams 59 = .ok (.if_icmp .ne 7, 3) := by decide +kernel
theorem dX1_countSeams_62 : decode cX1_countSeams 62 = .ok (.iconst 1, 1) := by decide +kernel
theorem dX1_countSeams_63 : decode cX1_countSeams 63 = .ok (.goto 4, 3) := by decide +kernel
theorem dX1_countSeams_66 : decode cX1_countSeams 66 = .ok (.iconst 0, 1) := by decide +kernel
theorem dX1_countSeams_67 : decode cX1_countSeams 67 = .ok (.istore 7, 2) := by decide +kernel
theorem dX1_countSeams_69 : decode cX1_countSeams 69 = .ok (.iload 4, 2) := by decide +kernel
theorem dX1_countSeams_71 : decode cX1_countSeams 71 = .ok (.iload 6, 2) := by decide +kernel
theorem dX1_countSeams_73 : decode cX1_countSeams 73 = .ok (.ifCond .eq 21, 3) := by decide +kernel
theorem dX1_countSeams_76 : decode cX1_countSeams 76 = .ok (.aload_n 1, 1) := by decide +kernel
theorem dX1_countSeams_77 : decode cX1_countSeams 77 = .ok (.iload_n 2, 1) := by decide +kernel
theorem dX1_countSeams_78 : decode cX1_countSeams 78 = .ok (.iload 5, 2) := by decide +kernel
theorem dX1_countSeams_80 : decode cX1_countSeams 80 = .ok (.iload 5, 2) := by decide +kernel
theorem dX1_countSeams_82 : decode cX1_countSeams 82 = .ok (.iconst 1, 1) := by decide +kernel
theorem dX1_countSeams_83 : decode cX1_countSeams 83 = .ok (.iadd, 1) := by decide +kernel
theorem dX1_countSeams_84 : decode cX1_countSeams 84 = .ok (.invokestatic 43, 3) := by decide +kernel
theorem dX1_countSeams_87 : decode cX1_countSeams 87 = .ok (.ifCond .eq 7, 3) := by decide +kernel
theorem dX1_countSeams_90 : decode cX1_countSeams 90 = .ok (.iconst 1, 1) := by decide +kernel
theorem dX1_countSeams_91 : decode cX1_countSeams 91 = .ok (.goto 4, 3) := by decide +kernel
theorem dX1_countSeams_94 : decode cX1_countSeams 94 = .ok (.iconst 0, 1) := by decide +kernel
theorem dX1_countSeams_95 : decode cX1_countSeams 95 = .ok (.iadd, 1) := by decide +kernel
theorem dX1_countSeams_96 : decode cX1_countSeams 96 = .ok (.istore 4, 2) := by decide +kernel
theorem dX1_countSeams_98 : decode cX1_countSeams 98 = .ok (.iload 4, 2) := by decide +kernel
theorem dX1_countSeams_100 : decode cX1_countSeams 100 = .ok (.iload 7, 2) := by decide +kernel
theorem dX1_countSeams_102 : decode cX1_countSeams 102 = .ok (.ifCond .eq 21, 3) := by decide +kernel
theorem dX1_countSeams_105 : decode cX1_countSeams 105 = .ok (.aload_n 1, 1) := by decide +kernel
theorem dX1_countSeams_106 : decode cX1_countSeams 106 = .ok (.iload_n 2, 1) := by decide +kernel
theorem dX1_countSeams_107 : decode cX1_countSeams 107 = .ok (.iload 5, 2) := by decide +kernel
theorem dX1_countSeams_109 : decode cX1_countSeams 109 = .ok (.iload 5, 2) := by decide +kernel
theorem dX1_countSeams_111 : decode cX1_countSeams 111 = .ok (.iconst 4, 1) := by decide +kernel
theorem dX1_countSeams_112 : decode cX1_countSeams 112 = .ok (.iadd, 1) := by decide +kernel
theorem dX1_countSeams_113 : decode cX1_countSeams 113 = .ok (.invokestatic 43, 3) := by decide +kernel
theorem dX1_countSeams_116 : decode cX1_countSeams 116 = .ok (.ifCond .eq 7, 3) := by decide +kernel
theorem dX1_countSeams_119 : decode cX1_countSeams 119 = .ok (.iconst 1, 1) := by decide +kernel
theorem dX1_countSeams_120 : decode cX1_countSeams 120 = .ok (.goto 4, 3) := by decide +kernel
theorem dX1_countSeams_123 : decode cX1_countSeams 123 = .ok (.iconst 0, 1) := by decide +kernel
theorem dX1_countSeams_124 : decode cX1_countSeams 124 = .ok (.iadd, 1) := by decide +kernel
theorem dX1_countSeams_125 : decode cX1_countSeams 125 = .ok (.istore 4, 2) := by decide +kernel
theorem dX1_countSeams_127 : decode cX1_countSeams 127 = .ok (.iinc 5 1, 3) := by decide +kernel
theorem dX1_countSeams_130 : decode cX1_countSeams 130 = .ok (.goto (-124), 3) := by decide +kernel
theorem dX1_countSeams_133 : decode cX1_countSeams 133 = .ok (.iload 4, 2) := by decide +kernel
theorem dX1_countSeams_135 : decode cX1_countSeams 135 = .ok (.ireturn, 1) := by decide +kernel
theorem dX1_isSeam_0 : decode cX1_isSeam 0 = .ok (.aload_n 0, 1) := by decide +kernel
theorem dX1_isSeam_1 : decode cX1_isSeam 1 = .ok (.bipush 16, 2) := by decide +kernel
theorem dX1_isSeam_3 : decode cX1_isSeam 3 = .ok (.iload_n 1, 1) := by decide +kernel
theorem dX1_isSeam_4 : decode cX1_isSeam 4 = .ok (.imul, 1) := by decide +kernel
theorem dX1_isSeam_5 : decode cX1_isSeam 5 = .ok (.iload_n 2, 1) := by decide +kernel
theorem dX1_isSeam_6 : decode cX1_isSeam 6 = .ok (.iadd, 1) := by decide +kernel
theorem dX1_isSeam_7 : decode cX1_isSeam 7 = .ok (.invokevirtual 30, 3) := by decide +kernel
theorem dX1_isSeam_10 : decode cX1_isSeam 10 = .ok (.aload_n 0, 1) := by decide +kernel
theorem dX1_isSeam_11 : decode cX1_isSeam 11 = .ok (.bipush 16, 2) := by decide +kernel
theorem dX1_isSeam_13 : decode cX1_isSeam 13 = .ok (.iload_n 1, 1) := by decide +kernel
theorem dX1_isSeam_14 : decode cX1_isSeam 14 = .ok (.imul, 1) := by decide +kernel
theorem dX1_isSeam_15 : decode cX1_isSeam 15 = .ok (.iload_n 3, 1) := by decide +kernel
theorem dX1_isSeam_16 : decode cX1_isSeam 16 = .ok (.iadd, 1) := by decide +kernel
theorem dX1_isSeam_17 : decode cX1_isSeam 17 = .ok (.invokevirtual 30, 3) := by decide +kernel
theorem dX1_isSeam_20 : decode cX1_isSeam 20 = .ok (.if_icmp .eq 7, 3) := by decide +kernel
theorem dX1_isSeam_23 : decode cX1_isSeam 23 = .ok (.iconst 1, 1) := by decide +kernel
theorem dX1_isSeam_24 : decode cX1_isSeam 24 = .ok (.goto 4, 3) := by decide +kernel
theorem dX1_isSeam_27 : decode cX1_isSeam 27 = .ok (.iconst 0, 1) := by decide +kernel
theorem dX1_isSeam_28 : decode cX1_isSeam 28 = .ok (.ireturn, 1) := by decide +kernel
theorem dX1_markFilms_0 : decode cX1_markFilms 0 = .ok (.aload_n 0, 1) := by decide +kernel
theorem dX1_markFilms_1 : decode cX1_markFilms 1 = .ok (.getfield 9, 3) := by decide +kernel
theorem dX1_markFilms_4 : decode cX1_markFilms 4 = .ok (.iconst 0, 1) := by decide +kernel
theorem dX1_markFilms_5 : decode cX1_markFilms 5 = .ok (.invokestatic 47, 3) := by decide +kernel
theorem dX1_markFilms_8 : decode cX1_markFilms 8 = .ok (.bipush 16, 2) := by decide +kernel
theorem dX1_markFilms_10 : decode cX1_markFilms 10 = .ok (.iload_n 2, 1) := by decide +kernel
theorem dX1_markFilms_11 : decode cX1_markFilms 11 = .ok (.imul, 1) := by decide +kernel
theorem dX1_markFilms_12 : decode cX1_markFilms 12 = .ok (.istore_n 3, 1) := by decide +kernel
theorem dX1_markFilms_13 : decode cX1_markFilms 13 = .ok (.iload_n 3, 1) := by decide +kernel
theorem dX1_markFilms_14 : decode cX1_markFilms 14 = .ok (.bipush 16, 2) := by decide +kernel
theorem dX1_markFilms_16 : decode cX1_markFilms 16 = .ok (.iload_n 2, 1) := by decide +kernel
theorem dX1_markFilms_17 : decode cX1_markFilms 17 = .ok (.imul, 1) := by decide +kernel
theorem dX1_markFilms_18 : decode cX1_markFilms 18 = .ok (.bipush 16, 2) := by decide +kernel
theorem dX1_markFilms_20 : decode cX1_markFilms 20 = .ok (.iadd, 1) := by decide +kernel
theorem dX1_markFilms_21 : decode cX1_markFilms 21 = .ok (.if_icmp .ge 54, 3) := by decide +kernel
theorem dX1_markFilms_24 : decode cX1_markFilms 24 = .ok (.iconst 0, 1) := by decide +kernel
theorem dX1_markFilms_25 : decode cX1_markFilms 25 = .ok (.istore 4, 2) := by decide +kernel
theorem dX1_markFilms_27 : decode cX1_markFilms 27 = .ok (.iload 4, 2) := by decide +kernel
theorem dX1_markFilms_29 : decode cX1_markFilms 29 = .ok (.aload_n 1, 1) := by decide +kernel
theorem dX1_markFilms_30 : decode cX1_markFilms 30 = .ok (.getfield 33, 3) := by decide +kernel
theorem dX1_markFilms_33 : decode cX1_markFilms 33 = .ok (.iload_n 3, 1) := by decide +kernel
theorem dX1_markFilms_34 : decode cX1_markFilms 34 = .ok (.iaload, 1) := by decide +kernel
theorem dX1_markFilms_35 : decode cX1_markFilms 35 = .ok (.if_icmp .ge 34, 3) := by decide +kernel
theorem dX1_markFilms_38 : decode cX1_markFilms 38 = .ok (.aload_n 0, 1) := by decide +kernel
theorem dX1_markFilms_39 : decode cX1_markFilms 39 = .ok (.getfield 9, 3) := by decide +kernel
theorem dX1_markFilms_42 : decode cX1_markFilms 42 = .ok (.aload_n 1, 1) := by decide +kernel
theorem dX1_markFilms_43 : decode cX1_markFilms 43 = .ok (.iload_n 3, 1) := by decide +kernel
theorem dX1_markFilms_44 : decode cX1_markFilms 44 = .ok (.iload 4, 2) := by decide +kernel
theorem dX1_markFilms_46 : decode cX1_markFilms 46 = .ok (.invokevirtual 36, 3) := by decide +kernel
theorem dX1_markFilms_49 : decode cX1_markFilms 49 = .ok (.dup2, 1) := by decide +kernel
theorem dX1_markFilms_50 : decode cX1_markFilms 50 = .ok (.iaload, 1) := by decide +kernel
theorem dX1_markFilms_51 : decode cX1_markFilms 51 = .ok (.iload 4, 2) := by decide +kernel
theorem dX1_markFilms_53 : decode cX1_markFilms 53 = .ok (.ifCond .ne 7, 3) := by decide +kernel
theorem dX1_markFilms_56 : decode cX1_markFilms 56 = .ok (.iconst 3, 1) := by decide +kernel
theorem dX1_markFilms_57 : decode cX1_markFilms 57 = .ok (.goto 4, 3) := by decide +kernel
theorem dX1_markFilms_60 : decode cX1_markFilms 60 = .ok (.iconst 1, 1) := by decide +kernel
theorem dX1_markFilms_61 : decode cX1_markFilms 61 = .ok (.ior, 1) := by decide +kernel
theorem dX1_markFilms_62 : decode cX1_markFilms 62 = .ok (.iastore, 1) := by decide +kernel
theorem dX1_markFilms_63 : decode cX1_markFilms 63 = .ok (.iinc 4 1, 3) := by decide +kernel
theorem dX1_markFilms_66 : decode cX1_markFilms 66 = .ok (.goto (-39), 3) := by decide +kernel
theorem dX1_markFilms_69 : decode cX1_markFilms 69 = .ok (.iinc 3 1, 3) := by decide +kernel
theorem dX1_markFilms_72 : decode cX1_markFilms 72 = .ok (.goto (-59), 3) := by decide +kernel
theorem dX1_markFilms_75 : decode cX1_markFilms 75 = .ok (.return_, 1) := by decide +kernel
theorem dX1_countDaysShown_0 : decode cX1_countDaysShown 0 = .ok (.aload_n 0, 1) := by decide +kernel
theorem dX1_countDaysShown_1 : decode cX1_countDaysShown 1 = .ok (.aload_n 1, 1) := by decide +kernel
theorem dX1_countDaysShown_2 : decode cX1_countDaysShown 2 = .ok (.iload_n 2, 1) := by decide +kernel
theorem dX1_countDaysShown_3 : decode cX1_countDaysShown 3 = .ok (.invokevirtual 53, 3) := by decide +kernel
theorem dX1_countDaysShown_6 : decode cX1_countDaysShown 6 = .ok (.iconst 0, 1) := by decide +kernel
theorem dX1_countDaysShown_7 : decode cX1_countDaysShown 7 = .ok (.istore_n 3, 1) := by decide +kernel
theorem dX1_countDaysShown_8 : decode cX1_countDaysShown 8 = .ok (.iconst 1, 1) := by decide +kernel
theorem dX1_countDaysShown_9 : decode cX1_countDaysShown 9 = .ok (.istore 4, 2) := by decide +kernel
theorem dX1_countDaysShown_11 : decode cX1_countDaysShown 11 = .ok (.iload 4, 2) := by decide +kernel
theorem dX1_countDaysShown_13 : decode cX1_countDaysShown 13 = .ok (.sipush 200, 3) := by decide +kernel
theorem dX1_countDaysShown_16 : decode cX1_countDaysShown 16 = .ok (.if_icmp .gt 21, 3) := by decide +kernel
theorem dX1_countDaysShown_19 : decode cX1_countDaysShown 19 = .ok (.iload_n 3, 1) := by decide +kernel
theorem dX1_countDaysShown_20 : decode cX1_countDaysShown 20 = .ok (.aload_n 0, 1) := by decide +kernel
theorem dX1_countDaysShown_21 : decode cX1_countDaysShown 21 = .ok (.getfield 9, 3) := by decide +kernel
theorem dX1_countDaysShown_24 : decode cX1_countDaysShown 24 = .ok (.iload 4, 2) := by decide +kernel
theorem dX1_countDaysShown_26 : decode cX1_countDaysShown 26 = .ok (.iaload, 1) := by decide +kernel
theorem dX1_countDaysShown_27 : decode cX1_countDaysShown 27 = .ok (.iconst 1, 1) := by decide +kernel
theorem dX1_countDaysShown_28 : decode cX1_countDaysShown 28 = .ok (.ishr, 1) := by decide +kernel
theorem dX1_countDaysShown_29 : decode cX1_countDaysShown 29 = .ok (.iadd, 1) := by decide +kernel
theorem dX1_countDaysShown_30 : decode cX1_countDaysShown 30 = .ok (.istore_n 3, 1) := by decide +kernel
theorem dX1_countDaysShown_31 : decode cX1_countDaysShown 31 = .ok (.iinc 4 1, 3) := by decide +kernel
theorem dX1_countDaysShown_34 : decode cX1_countDaysShown 34 = .ok (.goto (-23), 3) := by decide +kernel
theorem dX1_countDaysShown_37 : decode cX1_countDaysShown 37 = .ok (.iload_n 3, 1) := by decide +kernel
theorem dX1_countDaysShown_38 : decode cX1_countDaysShown 38 = .ok (.ireturn, 1) := by decide +kernel
theorem dX1_earliest_0 : decode cX1_earliest 0 = .ok (.aload_n 0, 1) := by decide +kernel
theorem dX1_earliest_1 : decode cX1_earliest 1 = .ok (.aload_n 1, 1) := by decide +kernel
theorem dX1_earliest_2 : decode cX1_earliest 2 = .ok (.iload_n 2, 1) := by decide +kernel
theorem dX1_earliest_3 : decode cX1_earliest 3 = .ok (.invokevirtual 53, 3) := by decide +kernel
theorem dX1_earliest_6 : decode cX1_earliest 6 = .ok (.iconst 1, 1) := by decide +kernel
theorem dX1_earliest_7 : decode cX1_earliest 7 = .ok (.istore_n 3, 1) := by decide +kernel
theorem dX1_earliest_8 : decode cX1_earliest 8 = .ok (.iload_n 3, 1) := by decide +kernel
theorem dX1_earliest_9 : decode cX1_earliest 9 = .ok (.sipush 200, 3) := by decide +kernel
theorem dX1_earliest_12 : decode cX1_earliest 12 = .ok (.if_icmp .gt 20, 3) := by decide +kernel
theorem dX1_earliest_15 : decode cX1_earliest 15 = .ok (.aload_n 0, 1) := by decide +kernel
theorem dX1_earliest_16 : decode cX1_earliest 16 = .ok (.getfield 9, 3) := by decide +kernel
theorem dX1_earliest_19 : decode cX1_earliest 19 = .ok (.iload_n 3, 1) := by decide +kernel
theorem dX1_earliest_20 : decode cX1_earliest 20 = .ok (.iaload, 1) := by decide +kernel
theorem dX1_earliest_21 : decode cX1_earliest 21 = .ok (.ifCond .eq 5, 3) := by decide +kernel
theorem dX1_earliest_24 : decode cX1_earliest 24 = .ok (.iload_n 3, 1) := by decide +kernel
theorem dX1_earliest_25 : decode cX1_earliest 25 = .ok (.ireturn, 1) := by decide +kernel
theorem dX1_earliest_26 : decode cX1_earliest 26 = .ok (.iinc 3 1, 3) := by decide +kernel
theorem dX1_earliest_29 : decode cX1_earliest 29 = .ok (.goto (-21), 3) := by decide +kernel
theorem dX1_earliest_32 : decode cX1_earliest 32 = .ok (.iconst (-1), 1) := by decide +kernel
theorem dX1_earliest_33 : decode cX1_earliest 33 = .ok (.ireturn, 1) := by decide +kernel
theorem dX1_latestHidden_0 : decode cX1_latestHidden 0 = .ok (.aload_n 0, 1) := by decide +kernel
theorem dX1_latestHidden_1 : decode cX1_latestHidden 1 = .ok (.aload_n 1, 1) := by decide +kernel
theorem dX1_latestHidden_2 : decode cX1_latestHidden 2 = .ok (.iload_n 2, 1) := by decide +kernel
theorem dX1_latestHidden_3 : decode cX1_latestHidden 3 = .ok (.invokevirtual 53, 3) := by decide +kernel
theorem dX1_latestHidden_6 : decode cX1_latestHidden 6 = .ok (.sipush 200, 3) := by decide +kernel
theorem dX1_latestHidden_9 : decode cX1_latestHidden 9 = .ok (.istore_n 3, 1) := by decide +kernel
theorem dX1_latestHidden_10 : decode cX1_latestHidden 10 = .ok (.iload_n 3, 1) := by decide +kernel
theorem dX1_latestHidden_11 : decode cX1_latestHidden 11 = .ok (.iconst 1, 1) := by decide +kernel
theorem dX1_latestHidden_12 : decode cX1_latestHidden 12 = .ok (.if_icmp .lt 21, 3) := by decide +kernel
theorem dX1_latestHidden_15 : decode cX1_latestHidden 15 = .ok (.aload_n 0, 1) := by decide +kernel
theorem dX1_latestHidden_16 : decode cX1_latestHidden 16 = .ok (.getfield 9, 3) := by decide +kernel
theorem dX1_latestHidden_19 : decode cX1_latestHidden 19 = .ok (.iload_n 3, 1) := by decide +kernel
theorem dX1_latestHidden_20 : decode cX1_latestHidden 20 = .ok (.iaload, 1) := by decide +kernel
theorem dX1_latestHidden_21 : decode cX1_latestHidden 21 = .ok (.iconst 1, 1) := by decide +kernel
theorem dX1_latestHidden_22 : decode cX1_latestHidden 22 = .ok (.if_icmp .ne 5, 3) := by decide +kernel
theorem dX1_latestHidden_25 : decode cX1_latestHidden 25 = .ok (.iload_n 3, 1) := by decide +kernel
theorem dX1_latestHidden_26 : decode cX1_latestHidden 26 = .ok (.ireturn, 1) := by decide +kernel
theorem dX1_latestHidden_27 : decode cX1_latestHidden 27 = .ok (.iinc 3 (-1), 3) := by decide +kernel
theorem dX1_latestHidden_30 : decode cX1_latestHidden 30 = .ok (.goto (-20), 3) := by decide +kernel
theorem dX1_latestHidden_33 : decode cX1_latestHidden 33 = .ok (.iconst (-1), 1) := by decide +kernel
theorem dX1_latestHidden_34 : decode cX1_latestHidden 34 = .ok (.ireturn, 1) := by decide +kernel
theorem dX1_sameCells_0 : decode cX1_sameCells 0 = .ok (.iconst 0, 1) := by decide +kernel
theorem dX1_sameCells_1 : decode cX1_sameCells 1 = .ok (.istore 5, 2) := by decide +kernel
theorem dX1_sameCells_3 : decode cX1_sameCells 3 = .ok (.iconst 0, 1) := by decide +kernel
theorem dX1_sameCells_4 : decode cX1_sameCells 4 = .ok (.istore 6, 2) := by decide +kernel
theorem dX1_sameCells_6 : decode cX1_sameCells 6 = .ok (.iload 6, 2) := by decide +kernel
theorem dX1_sameCells_8 : decode cX1_sameCells 8 = .ok (.bipush 16, 2) := by decide +kernel
theorem dX1_sameCells_10 : decode cX1_sameCells 10 = .ok (.if_icmp .ge 43, 3) := by decide +kernel
theorem dX1_sameCells_13 : decode cX1_sameCells 13 = .ok (.aload_n 1, 1) := by decide +kernel
theorem dX1_sameCells_14 : decode cX1_sameCells 14 = .ok (.bipush 16, 2) := by decide +kernel
theorem dX1_sameCells_16 : decode cX1_sameCells 16 = .ok (.iload_n 2, 1) := by decide +kernel
theorem dX1_sameCells_17 : decode cX1_sameCells 17 = .ok (.imul, 1) := by decide +kernel
theorem dX1_sameCells_18 : decode cX1_sameCells 18 = .ok (.iload 6, 2) := by decide +kernel
theorem dX1_sameCells_20 : decode cX1_sameCells 20 = .ok (.iadd, 1) := by decide +kernel
theorem dX1_sameCells_21 : decode cX1_sameCells 21 = .ok (.invokevirtual 30, 3) := by decide +kernel
theorem dX1_sameCells_24 : decode cX1_sameCells 24 = .ok (.aload_n 1, 1) := by decide +kernel
theorem dX1_sameCells_25 : decode cX1_sameCells 25 = .ok (.bipush 16, 2) := by decide +kernel
theorem dX1_sameCells_27 : decode cX1_sameCells 27 = .ok (.iload_n 3, 1) := by decide +kernel
theorem dX1_sameCells_28 : decode cX1_sameCells 28 = .ok (.imul, 1) := by decide +kernel
theorem dX1_sameCells_29 : decode cX1_sameCells 29 = .ok (.iload 6, 2) := by decide +kernel
theorem dX1_sameCells_31 : decode cX1_sameCells 31 = .ok (.iadd, 1) := by decide +kernel
theorem dX1_sameCells_32 : decode cX1_sameCells 32 = .ok (.invokevirtual 30, 3) := by decide +kernel
theorem dX1_sameCells_35 : decode cX1_sameCells 35 = .ok (.if_icmp .ne 12, 3) := by decide +kernel
theorem dX1_sameCells_38 : decode cX1_sameCells 38 = .ok (.iload 5, 2) := by decide +kernel
theorem dX1_sameCells_40 : decode cX1_sameCells 40 = .ok (.iconst 1, 1) := by decide +kernel
theorem dX1_sameCells_41 : decode cX1_sameCells 41 = .ok (.iload 6, 2) := by decide +kernel
theorem dX1_sameCells_43 : decode cX1_sameCells 43 = .ok (.ishl, 1) := by decide +kernel
theorem dX1_sameCells_44 : decode cX1_sameCells 44 = .ok (.ior, 1) := by decide +kernel
theorem dX1_sameCells_45 : decode cX1_sameCells 45 = .ok (.istore 5, 2) := by decide +kernel
theorem dX1_sameCells_47 : decode cX1_sameCells 47 = .ok (.iinc 6 1, 3) := by decide +kernel
theorem dX1_sameCells_50 : decode cX1_sameCells 50 = .ok (.goto (-44), 3) := by decide +kernel
theorem dX1_sameCells_53 : decode cX1_sameCells 53 = .ok (.iload 5, 2) := by decide +kernel
theorem dX1_sameCells_55 : decode cX1_sameCells 55 = .ok (.iload 4, 2) := by decide +kernel
theorem dX1_sameCells_57 : decode cX1_sameCells 57 = .ok (.iand, 1) := by decide +kernel
theorem dX1_sameCells_58 : decode cX1_sameCells 58 = .ok (.ireturn, 1) := by decide +kernel
theorem dX1_findPatch_0 : decode cX1_findPatch 0 = .ok (.aload_n 0, 1) := by decide +kernel
theorem dX1_findPatch_1 : decode cX1_findPatch 1 = .ok (.iconst 0, 1) := by decide +kernel
theorem dX1_findPatch_2 : decode cX1_findPatch 2 = .ok (.putfield 57, 3) := by decide +kernel
theorem dX1_findPatch_5 : decode cX1_findPatch 5 = .ok (.aload_n 0, 1) := by decide +kernel
theorem dX1_findPatch_6 : decode cX1_findPatch 6 = .ok (.iconst 0, 1) := by decide +kernel
theorem dX1_findPatch_7 : decode cX1_findPatch 7 = .ok (.putfield 61, 3) := by decide +kernel
theorem dX1_findPatch_10 : decode cX1_findPatch 10 = .ok (.iconst 0, 1) := by decide +kernel
theorem dX1_findPatch_11 : decode cX1_findPatch 11 = .ok (.istore 4, 2) := by decide +kernel
theorem dX1_findPatch_13 : decode cX1_findPatch 13 = .ok (.iload 4, 2) := by decide +kernel
theorem dX1_findPatch_15 : decode cX1_findPatch 15 = .ok (.bipush 16, 2) := by decide +kernel
theorem dX1_findPatch_17 : decode cX1_findPatch 17 = .ok (.if_icmp .ge 87, 3) := by decide +kernel
theorem dX1_findPatch_20 : decode cX1_findPatch 20 = .ok (.aload_n 1, 1) := by decide +kernel
theorem dX1_findPatch_21 : decode cX1_findPatch 21 = .ok (.bipush 16, 2) := by decide +kernel
theorem dX1_findPatch_23 : decode cX1_findPatch 23 = .ok (.iload_n 2, 1) := by decide +kernel
theorem dX1_findPatch_24 : decode cX1_findPatch 24 = .ok (.imul, 1) := by decide +kernel
theorem dX1_findPatch_25 : decode cX1_findPatch 25 = .ok (.iload 4, 2) := by decide +kernel
theorem dX1_findPatch_27 : decode cX1_findPatch 27 = .ok (.iadd, 1) := by decide +kernel
theorem dX1_findPatch_28 : decode cX1_findPatch 28 = .ok (.invokevirtual 30, 3) := by decide +kernel
theorem dX1_findPatch_31 : decode cX1_findPatch 31 = .ok (.istore 5, 2) := by decide +kernel
theorem dX1_findPatch_33 : decode cX1_findPatch 33 = .ok (.iload 5, 2) := by decide +kernel
theorem dX1_findPatch_35 : decode cX1_findPatch 35 = .ok (.ifCond .le 63, 3) := by decide +kernel
theorem dX1_findPatch_38 : decode cX1_findPatch 38 = .ok (.iconst 1, 1) := by decide +kernel
theorem dX1_findPatch_39 : decode cX1_findPatch 39 = .ok (.iload 4, 2) := by decide +kernel
theorem dX1_findPatch_41 : decode cX1_findPatch 41 = .ok (.ishl, 1) := by decide +kernel
theorem dX1_findPatch_42 : decode cX1_findPatch 42 = .ok (.aload_n 0, 1) := by decide +kernel
theorem dX1_findPatch_43 : decode cX1_findPatch 43 = .ok (.aload_n 1, 1) := by decide +kernel
theorem dX1_findPatch_44 : decode cX1_findPatch 44 = .ok (.iload_n 2, 1) := by decide +kernel
theorem dX1_findPatch_45 : decode cX1_findPatch 45 = .ok (.iload_n 3, 1) := by decide +kernel
theorem dX1_findPatch_46 : decode cX1_findPatch 46 = .ok (.iload 5, 2) := by decide +kernel
theorem dX1_findPatch_48 : decode cX1_findPatch 48 = .ok (.invokevirtual 64, 3) := by decide +kernel
theorem dX1_findPatch_51 : decode cX1_findPatch 51 = .ok (.invokestatic 67, 3) := by decide +kernel
theorem dX1_findPatch_54 : decode cX1_findPatch 54 = .ok (.invokestatic 70, 3) := by decide +kernel
theorem dX1_findPatch_57 : decode cX1_findPatch 57 = .ok (.istore 6, 2) := by decide +kernel
theorem dX1_findPatch_59 : decode cX1_findPatch 59 = .ok (.iload 6, 2) := by decide +kernel
theorem dX1_findPatch_61 : decode cX1_findPatch 61 = .ok (.aload_n 0, 1) := by decide +kernel
theorem dX1_findPatch_62 : decode cX1_findPatch 62 = .ok (.getfield 57, 3) := by decide +kernel
theorem dX1_findPatch_65 : decode cX1_findPatch 65 = .ok (.if_icmp .gt 21, 3) := by decide +kernel
theorem dX1_findPatch_68 : decode cX1_findPatch 68 = .ok (.iload 6, 2) := by decide +kernel
theorem dX1_findPatch_70 : decode cX1_findPatch 70 = .ok (.aload_n 0, 1) := by decide +kernel
theorem dX1_findPatch_71 : decode cX1_findPatch 71 = .ok (.getfield 57, 3) := by decide +kernel
theorem dX1_findPatch_74 : decode cX1_findPatch 74 = .ok (.if_icmp .ne 24, 3) := by decide +kernel
theorem dX1_findPatch_77 : decode cX1_findPatch 77 = .ok (.iload 5, 2) := by decide +kernel
theorem dX1_findPatch_79 : decode cX1_findPatch 79 = .ok (.aload_n 0, 1) := by decide +kernel
theorem dX1_findPatch_80 : decode cX1_findPatch 80 = .ok (.getfield 61, 3) := by decide +kernel
theorem dX1_findPatch_83 : decode cX1_findPatch 83 = .ok (.if_icmp .le 15, 3) := by decide +kernel
theorem dX1_findPatch_86 : decode cX1_findPatch 86 = .ok (.aload_n 0, 1) := by decide +kernel
theorem dX1_findPatch_87 : decode cX1_findPatch 87 = .ok (.iload 6, 2) := by decide +kernel
theorem dX1_findPatch_89 : decode cX1_findPatch 89 = .ok (.putfield 57, 3) := by decide +kernel
theorem dX1_findPatch_92 : decode cX1_findPatch 92 = .ok (.aload_n 0, 1) := by decide +kernel
theorem dX1_findPatch_93 : decode cX1_findPatch 93 = .ok (.iload 5, 2) := by decide +kernel
theorem dX1_findPatch_95 : decode cX1_findPatch 95 = .ok (.putfield 61, 3) := by decide +kernel
theorem dX1_findPatch_98 : decode cX1_findPatch 98 = .ok (.iinc 4 1, 3) := by decide +kernel
theorem dX1_findPatch_101 : decode cX1_findPatch 101 = .ok (.goto (-88), 3) := by decide +kernel
theorem dX1_findPatch_104 : decode cX1_findPatch 104 = .ok (.return_, 1) := by decide +kernel
theorem dX1_spread_0 : decode cX1_spread 0 = .ok (.iload_n 0, 1) := by decide +kernel
theorem dX1_spread_1 : decode cX1_spread 1 = .ok (.istore_n 2, 1) := by decide +kernel
theorem dX1_spread_2 : decode cX1_spread 2 = .ok (.iconst 0, 1) := by decide +kernel
theorem dX1_spread_3 : decode cX1_spread 3 = .ok (.istore_n 3, 1) := by decide +kernel
theorem dX1_spread_4 : decode cX1_spread 4 = .ok (.iload_n 3, 1) := by decide +kernel
theorem dX1_spread_5 : decode cX1_spread 5 = .ok (.bipush 16, 2) := by decide +kernel
theorem dX1_spread_7 : decode cX1_spread 7 = .ok (.if_icmp .ge 38, 3) := by decide +kernel
theorem dX1_spread_10 : decode cX1_spread 10 = .ok (.iload_n 2, 1) := by decide +kernel
theorem dX1_spread_11 : decode cX1_spread 11 = .ok (.iload_n 2, 1) := by decide +kernel
theorem dX1_spread_12 : decode cX1_spread 12 = .ok (.ldc 75, 2) := by decide +kernel
theorem dX1_spread_14 : decode cX1_spread 14 = .ok (.iand, 1) := by decide +kernel
theorem dX1_spread_15 : decode cX1_spread 15 = .ok (.iconst 1, 1) := by decide +kernel
theorem dX1_spread_16 : decode cX1_spread 16 = .ok (.ishl, 1) := by decide +kernel
theorem dX1_spread_17 : decode cX1_spread 17 = .ok (.iload_n 2, 1) := by decide +kernel
theorem dX1_spread_18 : decode cX1_spread 18 = .ok (.sipush (-4370), 3) := by decide +kernel
theorem dX1_spread_21 : decode cX1_spread 21 = .ok (.iand, 1) := by decide +kernel
theorem dX1_spread_22 : decode cX1_spread 22 = .ok (.iconst 1, 1) := by decide +kernel
theorem dX1_spread_23 : decode cX1_spread 23 = .ok (.ishr, 1) := by decide +kernel
theorem dX1_spread_24 : decode cX1_spread 24 = .ok (.ior, 1) := by decide +kernel
theorem dX1_spread_25 : decode cX1_spread 25 = .ok (.iload_n 2, 1) := by decide +kernel
theorem dX1_spread_26 : decode cX1_spread 26 = .ok (.iconst 4, 1) := by decide +kernel
theorem dX1_spread_27 : decode cX1_spread 27 = .ok (.ishl, 1) := by decide +kernel
theorem dX1_spread_28 : decode cX1_spread 28 = .ok (.ior, 1) := by decide +kernel
theorem dX1_spread_29 : decode cX1_spread 29 = .ok (.iload_n 2, 1) := by decide +kernel
theorem dX1_spread_30 : decode cX1_spread 30 = .ok (.iconst 4, 1) := by decide +kernel
theorem dX1_spread_31 : decode cX1_spread 31 = .ok (.ishr, 1) := by decide +kernel
theorem dX1_spread_32 : decode cX1_spread 32 = .ok (.ior, 1) := by decide +kernel
theorem dX1_spread_33 : decode cX1_spread 33 = .ok (.ior, 1) := by decide +kernel
theorem dX1_spread_34 : decode cX1_spread 34 = .ok (.istore_n 2, 1) := by decide +kernel
theorem dX1_spread_35 : decode cX1_spread 35 = .ok (.iload_n 2, 1) := by decide +kernel
theorem dX1_spread_36 : decode cX1_spread 36 = .ok (.iload_n 1, 1) := by decide +kernel
theorem dX1_spread_37 : decode cX1_spread 37 = .ok (.iand, 1) := by decide +kernel
theorem dX1_spread_38 : decode cX1_spread 38 = .ok (.istore_n 2, 1) := by decide +kernel
theorem dX1_spread_39 : decode cX1_spread 39 = .ok (.iinc 3 1, 3) := by decide +kernel
theorem dX1_spread_42 : decode cX1_spread 42 = .ok (.goto (-38), 3) := by decide +kernel
theorem dX1_spread_45 : decode cX1_spread 45 = .ok (.iload_n 2, 1) := by decide +kernel
theorem dX1_spread_46 : decode cX1_spread 46 = .ok (.ireturn, 1) := by decide +kernel
theorem dX1_fewestCircles_0 : decode cX1_fewestCircles 0 = .ok (.iconst 0, 1) := by decide +kernel
theorem dX1_fewestCircles_1 : decode cX1_fewestCircles 1 = .ok (.istore 5, 2) := by decide +kernel
theorem dX1_fewestCircles_3 : decode cX1_fewestCircles 3 = .ok (.iload 5, 2) := by decide +kernel
theorem dX1_fewestCircles_5 : decode cX1_fewestCircles 5 = .ok (.bipush 16, 2) := by decide +kernel
theorem dX1_fewestCircles_7 : decode cX1_fewestCircles 7 = .ok (.if_icmp .ge 28, 3) := by decide +kernel
theorem dX1_fewestCircles_10 : decode cX1_fewestCircles 10 = .ok (.aload_n 0, 1) := by decide +kernel
theorem dX1_fewestCircles_11 : decode cX1_fewestCircles 11 = .ok (.getfield 15, 3) := by decide +kernel
theorem dX1_fewestCircles_14 : decode cX1_fewestCircles 14 = .ok (.iload 5, 2) := by decide +kernel
theorem dX1_fewestCircles_16 : decode cX1_fewestCircles 16 = .ok (.iload 5, 2) := by decide +kernel
theorem dX1_fewestCircles_18 : decode cX1_fewestCircles 18 = .ok (.iconst 3, 1) := by decide +kernel
theorem dX1_fewestCircles_19 : decode cX1_fewestCircles 19 = .ok (.iand, 1) := by decide +kernel
theorem dX1_fewestCircles_20 : decode cX1_fewestCircles 20 = .ok (.iload 5, 2) := by decide +kernel
theorem dX1_fewestCircles_22 : decode cX1_fewestCircles 22 = .ok (.iconst 2, 1) := by decide +kernel
theorem dX1_fewestCircles_23 : decode cX1_fewestCircles 23 = .ok (.ishr, 1) := by decide +kernel
theorem dX1_fewestCircles_24 : decode cX1_fewestCircles 24 = .ok (.iload_n 3, 1) := by decide +kernel
theorem dX1_fewestCircles_25 : decode cX1_fewestCircles 25 = .ok (.invokestatic 76, 3) := by decide +kernel
theorem dX1_fewestCircles_28 : decode cX1_fewestCircles 28 = .ok (.iastore, 1) := by decide +kernel
theorem dX1_fewestCircles_29 : decode cX1_fewestCircles 29 = .ok (.iinc 5 1, 3) := by decide +kernel
theorem dX1_fewestCircles_32 : decode cX1_fewestCircles 32 = .ok (.goto (-29), 3) := by decide +kernel
theorem dX1_fewestCircles_35 : decode cX1_fewestCircles 35 = .ok (.iconst 0, 1) := by decide +kernel
theorem dX1_fewestCircles_36 : decode cX1_fewestCircles 36 = .ok (.istore 5, 2) := by decide +kernel
theorem dX1_fewestCircles_38 : decode cX1_fewestCircles 38 = .ok (.iload 5, 2) := by decide +kernel
theorem dX1_fewestCircles_40 : decode cX1_fewestCircles 40 = .ok (.iconst 4, 1) := by decide +kernel
theorem dX1_fewestCircles_41 : decode cX1_fewestCircles 41 = .ok (.if_icmp .gt 40, 3) := by decide +kernel
theorem dX1_fewestCircles_44 : decode cX1_fewestCircles 44 = .ok (.aload_n 0, 1) := by decide +kernel
theorem dX1_fewestCircles_45 : decode cX1_fewestCircles 45 = .ok (.iload_n 1, 1) := by decide +kernel
theorem dX1_fewestCircles_46 : decode cX1_fewestCircles 46 = .ok (.iconst 0, 1) := by decide +kernel
theorem dX1_fewestCircles_47 : decode cX1_fewestCircles 47 = .ok (.iload 5, 2) := by decide +kernel
theorem dX1_fewestCircles_49 : decode cX1_fewestCircles 49 = .ok (.iload_n 2, 1) := by decide +kernel
theorem dX1_fewestCircles_50 : decode cX1_fewestCircles 50 = .ok (.iconst 0, 1) := by decide +kernel
theorem dX1_fewestCircles_51 : decode cX1_fewestCircles 51 = .ok (.invokevirtual 80, 3) := by decide +kernel
theorem dX1_fewestCircles_54 : decode cX1_fewestCircles 54 = .ok (.istore 6, 2) := by decide +kernel
theorem dX1_fewestCircles_56 : decode cX1_fewestCircles 56 = .ok (.iload 6, 2) := by decide +kernel
theorem dX1_fewestCircles_58 : decode cX1_fewestCircles 58 = .ok (.iconst (-1), 1) := by decide +kernel
theorem dX1_fewestCircles_59 : decode cX1_fewestCircles 59 = .ok (.if_icmp .eq 16, 3) := by decide +kernel
theorem dX1_fewestCircles_62 : decode cX1_fewestCircles 62 = .ok (.iload 4, 2) := by decide +kernel
theorem dX1_fewestCircles_64 : decode cX1_fewestCircles 64 = .ok (.ifCond .eq 8, 3) := by decide +kernel
theorem dX1_fewestCircles_67 : decode cX1_fewestCircles 67 = .ok (.iload 6, 2) := by decide +kernel
theorem dX1_fewestCircles_69 : decode cX1_fewestCircles 69 = .ok (.goto 5, 3) := by decide +kernel
theorem dX1_fewestCircles_72 : decode cX1_fewestCircles 72 = .ok (.iload 5, 2) := by decide +kernel
theorem dX1_fewestCircles_74 : decode cX1_fewestCircles 74 = .ok (.ireturn, 1) := by decide +kernel
theorem dX1_fewestCircles_75 : decode cX1_fewestCircles 75 = .ok (.iinc 5 1, 3) := by decide +kernel
theorem dX1_fewestCircles_78 : decode cX1_fewestCircles 78 = .ok (.goto (-40), 3) := by decide +kernel
theorem dX1_fewestCircles_81 : decode cX1_fewestCircles 81 = .ok (.iconst (-1), 1) := by decide +kernel
theorem dX1_fewestCircles_82 : decode cX1_fewestCircles 82 = .ok (.ireturn, 1) := by decide +kernel
theorem dX1_pickCircles_0 : decode cX1_pickCircles 0 = .ok (.iload_n 3, 1) := by decide +kernel
theorem dX1_pickCircles_1 : decode cX1_pickCircles 1 = .ok (.ifCond .gt 15, 3) := by decide +kernel
theorem dX1_pickCircles_4 : decode cX1_pickCircles 4 = .ok (.iload 4, 2) := by decide +kernel
theorem dX1_pickCircles_6 : decode cX1_pickCircles 6 = .ok (.ifCond .ne 8, 3) := by decide +kernel
theorem dX1_pickCircles_9 : decode cX1_pickCircles 9 = .ok (.iload 5, 2) := by decide +kernel
theorem dX1_pickCircles_11 : decode cX1_pickCircles 11 = .ok (.goto 4, 3) := by decide +kernel
theorem dX1_pickCircles_14 : decode cX1_pickCircles 14 = .ok (.iconst (-1), 1) := by decide +kernel
theorem dX1_pickCircles_15 : decode cX1_pickCircles 15 = .ok (.ireturn, 1) := by decide +kernel
theorem dX1_pickCircles_16 : decode cX1_pickCircles 16 = .ok (.iload_n 2, 1) := by decide +kernel
theorem dX1_pickCircles_17 : decode cX1_pickCircles 17 = .ok (.istore 6, 2) := by decide +kernel
theorem dX1_pickCircles_19 : decode cX1_pickCircles 19 = .ok (.iload 6, 2) := by decide +kernel
theorem dX1_pickCircles_21 : decode cX1_pickCircles 21 = .ok (.bipush 16, 2) := by decide +kernel
theorem dX1_pickCircles_23 : decode cX1_pickCircles 23 = .ok (.if_icmp .ge 62, 3) := by decide +kernel
theorem dX1_pickCircles_26 : decode cX1_pickCircles 26 = .ok (.iload_n 1, 1) := by decide +kernel
theorem dX1_pickCircles_27 : decode cX1_pickCircles 27 = .ok (.iload 6, 2) := by decide +kernel
theorem dX1_pickCircles_29 : decode cX1_pickCircles 29 = .ok (.ishr, 1) := by decide +kernel
theorem dX1_pickCircles_30 : decode cX1_pickCircles 30 = .ok (.iconst 1, 1) := by decide +kernel
theorem dX1_pickCircles_31 : decode cX1_pickCircles 31 = .ok (.iand, 1) := by decide +kernel
theorem dX1_pickCircles_32 : decode cX1_pickCircles 32 = .ok (.iconst 1, 1) := by decide +kernel
theorem dX1_pickCircles_33 : decode cX1_pickCircles 33 = .ok (.if_icmp .ne 46, 3) := by decide +kernel
theorem dX1_pickCircles_36 : decode cX1_pickCircles 36 = .ok (.aload_n 0, 1) := by decide +kernel
theorem dX1_pickCircles_37 : decode cX1_pickCircles 37 = .ok (.iload_n 1, 1) := by decide +kernel
theorem dX1_pickCircles_38 : decode cX1_pickCircles 38 = .ok (.iload 6, 2) := by decide +kernel
theorem dX1_pickCircles_40 : decode cX1_pickCircles 40 = .ok (.iconst 1, 1) := by decide +kernel
theorem dX1_pickCircles_41 : decode cX1_pickCircles 41 = .ok (.iadd, 1) := by decide +kernel
theorem dX1_pickCircles_42 : decode cX1_pickCircles 42 = .ok (.iload_n 3, 1) := by decide +kernel
theorem dX1_pickCircles_43 : decode cX1_pickCircles 43 = .ok (.iconst 1, 1) := by decide +kernel
theorem dX1_pickCircles_44 : decode cX1_pickCircles 44 = .ok (.isub, 1) := by decide +kernel
theorem dX1_pickCircles_45 : decode cX1_pickCircles 45 = .ok (.iload 4, 2) := by decide +kernel
theorem dX1_pickCircles_47 : decode cX1_pickCircles 47 = .ok (.aload_n 0, 1) := by decide +kernel
theorem dX1_pickCircles_48 : decode cX1_pickCircles 48 = .ok (.getfield 15, 3) := by decide +kernel
theorem dX1_pickCircles_51 : decode cX1_pickCircles 51 = .ok (.iload 6, 2) := by decide +kernel
theorem dX1_pickCircles_53 : decode cX1_pickCircles 53 = .ok (.iaload, 1) := by decide +kernel
theorem dX1_pickCircles_54 : decode cX1_pickCircles 54 = .ok (.iconst (-1), 1) := by decide +kernel
theorem dX1_pickCircles_55 : decode cX1_pickCircles 55 = .ok (.ixor, 1) := by decide +kernel
theorem dX1_pickCircles_56 : decode cX1_pickCircles 56 = .ok (.iand, 1) := by decide +kernel
theorem dX1_pickCircles_57 : decode cX1_pickCircles 57 = .ok (.bipush 16, 2) := by decide +kernel
theorem dX1_pickCircles_59 : decode cX1_pickCircles 59 = .ok (.iload 5, 2) := by decide +kernel
theorem dX1_pickCircles_61 : decode cX1_pickCircles 61 = .ok (.imul, 1) := by decide +kernel
theorem dX1_pickCircles_62 : decode cX1_pickCircles 62 = .ok (.iload 6, 2) := by decide +kernel
theorem dX1_pickCircles_64 : decode cX1_pickCircles 64 = .ok (.iadd, 1) := by decide +kernel
theorem dX1_pickCircles_65 : decode cX1_pickCircles 65 = .ok (.invokevirtual 80, 3) := by decide +kernel
theorem dX1_pickCircles_68 : decode cX1_pickCircles 68 = .ok (.istore 7, 2) := by decide +kernel
theorem dX1_pickCircles_70 : decode cX1_pickCircles 70 = .ok (.iload 7, 2) := by decide +kernel
theorem dX1_pickCircles_72 : decode cX1_pickCircles 72 = .ok (.iconst (-1), 1) := by decide +kernel
theorem dX1_pickCircles_73 : decode cX1_pickCircles 73 = .ok (.if_icmp .eq 6, 3) := by decide +kernel
theorem dX1_pickCircles_76 : decode cX1_pickCircles 76 = .ok (.iload 7, 2) := by decide +kernel
theorem dX1_pickCircles_78 : decode cX1_pickCircles 78 = .ok (.ireturn, 1) := by decide +kernel
theorem dX1_pickCircles_79 : decode cX1_pickCircles 79 = .ok (.iinc 6 1, 3) := by decide +kernel
theorem dX1_pickCircles_82 : decode cX1_pickCircles 82 = .ok (.goto (-63), 3) := by decide +kernel
theorem dX1_pickCircles_85 : decode cX1_pickCircles 85 = .ok (.iconst (-1), 1) := by decide +kernel
theorem dX1_pickCircles_86 : decode cX1_pickCircles 86 = .ok (.ireturn, 1) := by decide +kernel
theorem dX1_winningCells_0 : decode cX1_winningCells 0 = .ok (.iconst 0, 1) := by decide +kernel
theorem dX1_winningCells_1 : decode cX1_winningCells 1 = .ok (.istore 4, 2) := by decide +kernel
theorem dX1_winningCells_3 : decode cX1_winningCells 3 = .ok (.bipush 16, 2) := by decide +kernel
theorem dX1_winningCells_5 : decode cX1_winningCells 5 = .ok (.iload_n 2, 1) := by decide +kernel
theorem dX1_winningCells_6 : decode cX1_winningCells 6 = .ok (.imul, 1) := by decide +kernel
theorem dX1_winningCells_7 : decode cX1_winningCells 7 = .ok (.istore 5, 2) := by decide +kernel
theorem dX1_winningCells_9 : decode cX1_winningCells 9 = .ok (.iload 5, 2) := by decide +kernel
theorem dX1_winningCells_11 : decode cX1_winningCells 11 = .ok (.bipush 16, 2) := by decide +kernel
theorem dX1_winningCells_13 : decode cX1_winningCells 13 = .ok (.iload_n 2, 1) := by decide +kernel
theorem dX1_winningCells_14 : decode cX1_winningCells 14 = .ok (.imul, 1) := by decide +kernel
theorem dX1_winningCells_15 : decode cX1_winningCells 15 = .ok (.bipush 16, 2) := by decide +kernel
theorem dX1_winningCells_17 : decode cX1_winningCells 17 = .ok (.iadd, 1) := by decide +kernel
theorem dX1_winningCells_18 : decode cX1_winningCells 18 = .ok (.if_icmp .ge 25, 3) := by decide +kernel
theorem dX1_winningCells_21 : decode cX1_winningCells 21 = .ok (.iload 4, 2) := by decide +kernel
theorem dX1_winningCells_23 : decode cX1_winningCells 23 = .ok (.aload_n 1, 1) := by decide +kernel
theorem dX1_winningCells_24 : decode cX1_winningCells 24 = .ok (.getfield 33, 3) := by decide +kernel
theorem dX1_winningCells_27 : decode cX1_winningCells 27 = .ok (.iload 5, 2) := by decide +kernel
theorem dX1_winningCells_29 : decode cX1_winningCells 29 = .ok (.iaload, 1) := by decide +kernel
theorem dX1_winningCells_30 : decode cX1_winningCells 30 = .ok (.iload_n 3, 1) := by decide +kernel
theorem dX1_winningCells_31 : decode cX1_winningCells 31 = .ok (.iconst 1, 1) := by decide +kernel
theorem dX1_winningCells_32 : decode cX1_winningCells 32 = .ok (.iadd, 1) := by decide +kernel
theorem dX1_winningCells_33 : decode cX1_winningCells 33 = .ok (.irem, 1) := by decide +kernel
theorem dX1_winningCells_34 : decode cX1_winningCells 34 = .ok (.ixor, 1) := by decide +kernel
theorem dX1_winningCells_35 : decode cX1_winningCells 35 = .ok (.istore 4, 2) := by decide +kernel
theorem dX1_winningCells_37 : decode cX1_winningCells 37 = .ok (.iinc 5 1, 3) := by decide +kernel
theorem dX1_winningCells_40 : decode cX1_winningCells 40 = .ok (.goto (-31), 3) := by decide +kernel
theorem dX1_winningCells_43 : decode cX1_winningCells 43 = .ok (.iconst 0, 1) := by decide +kernel
theorem dX1_winningCells_44 : decode cX1_winningCells 44 = .ok (.istore 5, 2) := by decide +kernel
theorem dX1_winningCells_46 : decode cX1_winningCells 46 = .ok (.iconst 0, 1) := by decide +kernel
theorem dX1_winningCells_47 : decode cX1_winningCells 47 = .ok (.istore 6, 2) := by decide +kernel
theorem dX1_winningCells_49 : decode cX1_winningCells 49 = .ok (.iload 6, 2) := by decide +kernel
theorem dX1_winningCells_51 : decode cX1_winningCells 51 = .ok (.bipush 16, 2) := by decide +kernel
theorem dX1_winningCells_53 : decode cX1_winningCells 53 = .ok (.if_icmp .ge 79, 3) := by decide +kernel
theorem dX1_winningCells_56 : decode cX1_winningCells 56 = .ok (.aload_n 1, 1) := by decide +kernel
theorem dX1_winningCells_57 : decode cX1_winningCells 57 = .ok (.getfield 33, 3) := by decide +kernel
theorem dX1_winningCells_60 : decode cX1_winningCells 60 = .ok (.bipush 16, 2) := by decide +kernel
theorem dX1_winningCells_62 : decode cX1_winningCells 62 = .ok (.iload_n 2, 1) := by decide +kernel
theorem dX1_winningCells_63 : decode cX1_winningCells 63 = .ok (.imul, 1) := by decide +kernel
theorem dX1_winningCells_64 : decode cX1_winningCells 64 = .ok (.iload 6, 2) := by decide +kernel
theorem dX1_winningCells_66 : decode cX1_winningCells 66 = .ok (.iadd, 1) := by decide +kernel
theorem dX1_winningCells_67 : decode cX1_winningCells 67 = .ok (.iaload, 1) := by decide +kernel
theorem dX1_winningCells_68 : decode cX1_winningCells 68 = .ok (.istore 7, 2) := by decide +kernel
theorem dX1_winningCells_70 : decode cX1_winningCells 70 = .ok (.iload 4, 2) := by decide +kernel
theorem dX1_winningCells_72 : decode cX1_winningCells 72 = .ok (.iload 7, 2) := by decide +kernel
theorem dX1_winningCells_74 : decode cX1_winningCells 74 = .ok (.iload_n 3, 1) := by decide +kernel
theorem dX1_winningCells_75 : decode cX1_winningCells 75 = .ok (.iconst 1, 1) := by decide +kernel
theorem dX1_winningCells_76 : decode cX1_winningCells 76 = .ok (.iadd, 1) := by decide +kernel
theorem dX1_winningCells_77 : decode cX1_winningCells 77 = .ok (.irem, 1) := by decide +kernel
theorem dX1_winningCells_78 : decode cX1_winningCells 78 = .ok (.ixor, 1) := by decide +kernel
theorem dX1_winningCells_79 : decode cX1_winningCells 79 = .ok (.istore 8, 2) := by decide +kernel
theorem dX1_winningCells_81 : decode cX1_winningCells 81 = .ok (.iconst 1, 1) := by decide +kernel
theorem dX1_winningCells_82 : decode cX1_winningCells 82 = .ok (.istore 9, 2) := by decide +kernel
theorem dX1_winningCells_84 : decode cX1_winningCells 84 = .ok (.iload 9, 2) := by decide +kernel
theorem dX1_winningCells_86 : decode cX1_winningCells 86 = .ok (.iload_n 3, 1) := by decide +kernel
theorem dX1_winningCells_87 : decode cX1_winningCells 87 = .ok (.if_icmp .gt 39, 3) := by decide +kernel
theorem dX1_winningCells_90 : decode cX1_winningCells 90 = .ok (.iload 9, 2) := by decide +kernel
theorem dX1_winningCells_92 : decode cX1_winningCells 92 = .ok (.iload 7, 2) := by decide +kernel
theorem dX1_winningCells_94 : decode cX1_winningCells 94 = .ok (.if_icmp .gt 32, 3) := by decide +kernel
theorem dX1_winningCells_97 : decode cX1_winningCells 97 = .ok (.iload 7, 2) := by decide +kernel
theorem dX1_winningCells_99 : decode cX1_winningCells 99 = .ok (.iload 9, 2) := by decide +kernel
theorem dX1_winningCells_101 : decode cX1_winningCells 101 = .ok (.isub, 1) := by decide +kernel
theorem dX1_winningCells_102 : decode cX1_winningCells 102 = .ok (.iload_n 3, 1) := by decide +kernel
theorem dX1_winningCells_103 : decode cX1_winningCells 103 = .ok (.iconst 1, 1) := by decide +kernel
theorem dX1_winningCells_104 : decode cX1_winningCells 104 = .ok (.iadd, 1) := by decide +kernel
theorem dX1_winningCells_105 : decode cX1_winningCells 105 = .ok (.irem, 1) := by decide +kernel
theorem dX1_winningCells_106 : decode cX1_winningCells 106 = .ok (.iload 8, 2) := by decide +kernel
theorem dX1_winningCells_108 : decode cX1_winningCells 108 = .ok (.if_icmp .ne 12, 3) := by decide +kernel
theorem dX1_winningCells_111 : decode cX1_winningCells 111 = .ok (.iload 5, 2) := by decide +kernel
theorem dX1_winningCells_113 : decode cX1_winningCells 113 = .ok (.iconst 1, 1) := by decide +kernel
theorem dX1_winningCells_114 : decode cX1_winningCells 114 = .ok (.iload 6, 2) := by decide +kernel
theorem dX1_winningCells_116 : decode cX1_winningCells 116 = .ok (.ishl, 1) := by decide +kernel
theorem dX1_winningCells_117 : decode cX1_winningCells 117 = .ok (.ior, 1) := by decide +kernel
theorem dX1_winningCells_118 : decode cX1_winningCells 118 = .ok (.istore 5, 2) := by decide +kernel
theorem dX1_winningCells_120 : decode cX1_winningCells 120 = .ok (.iinc 9 1, 3) := by decide +kernel
theorem dX1_winningCells_123 : decode cX1_winningCells 123 = .ok (.goto (-39), 3) := by decide +kernel
theorem dX1_winningCells_126 : decode cX1_winningCells 126 = .ok (.iinc 6 1, 3) := by decide +kernel
theorem dX1_winningCells_129 : decode cX1_winningCells 129 = .ok (.goto (-80), 3) := by decide +kernel
theorem dX1_winningCells_132 : decode cX1_winningCells 132 = .ok (.iload 5, 2) := by decide +kernel
theorem dX1_winningCells_134 : decode cX1_winningCells 134 = .ok (.ireturn, 1) := by decide +kernel
theorem dX1_shareOf_0 : decode cX1_shareOf 0 = .ok (.iload_n 2, 1) := by decide +kernel
theorem dX1_shareOf_1 : decode cX1_shareOf 1 = .ok (.bipush 16, 2) := by decide +kernel
theorem dX1_shareOf_3 : decode cX1_shareOf 3 = .ok (.idiv, 1) := by decide +kernel
theorem dX1_shareOf_4 : decode cX1_shareOf 4 = .ok (.bipush 16, 2) := by decide +kernel
theorem dX1_shareOf_6 : decode cX1_shareOf 6 = .ok (.imul, 1) := by decide +kernel
theorem dX1_shareOf_7 : decode cX1_shareOf 7 = .ok (.istore 4, 2) := by decide +kernel
theorem dX1_shareOf_9 : decode cX1_shareOf 9 = .ok (.aload_n 1, 1) := by decide +kernel
theorem dX1_shareOf_10 : decode cX1_shareOf 10 = .ok (.iload_n 2, 1) := by decide +kernel
theorem dX1_shareOf_11 : decode cX1_shareOf 11 = .ok (.bipush 16, 2) := by decide +kernel
theorem dX1_shareOf_13 : decode cX1_shareOf 13 = .ok (.idiv, 1) := by decide +kernel
theorem dX1_shareOf_14 : decode cX1_shareOf 14 = .ok (.invokevirtual 84, 3) := by decide +kernel
theorem dX1_shareOf_17 : decode cX1_shareOf 17 = .ok (.istore 5, 2) := by decide +kernel
theorem dX1_shareOf_19 : decode cX1_shareOf 19 = .ok (.iload 5, 2) := by decide +kernel
theorem dX1_shareOf_21 : decode cX1_shareOf 21 = .ok (.ifCond .ne 5, 3) := by decide +kernel
theorem dX1_shareOf_24 : decode cX1_shareOf 24 = .ok (.iconst 0, 1) := by decide +kernel
theorem dX1_shareOf_25 : decode cX1_shareOf 25 = .ok (.ireturn, 1) := by decide +kernel
theorem dX1_shareOf_26 : decode cX1_shareOf 26 = .ok (.iload 4, 2) := by decide +kernel
theorem dX1_shareOf_28 : decode cX1_shareOf 28 = .ok (.istore 6, 2) := by decide +kernel
theorem dX1_shareOf_30 : decode cX1_shareOf 30 = .ok (.iload_n 3, 1) := by decide +kernel
theorem dX1_shareOf_31 : decode cX1_shareOf 31 = .ok (.istore 7, 2) := by decide +kernel
theorem dX1_shareOf_33 : decode cX1_shareOf 33 = .ok (.iload 4, 2) := by decide +kernel
theorem dX1_shareOf_35 : decode cX1_shareOf 35 = .ok (.istore 8, 2) := by decide +kernel
theorem dX1_shareOf_37 : decode cX1_shareOf 37 = .ok (.iload 8, 2) := by decide +kernel
theorem dX1_shareOf_39 : decode cX1_shareOf 39 = .ok (.iload 4, 2) := by decide +kernel
theorem dX1_shareOf_41 : decode cX1_shareOf 41 = .ok (.bipush 16, 2) := by decide +kernel
theorem dX1_shareOf_43 : decode cX1_shareOf 43 = .ok (.iadd, 1) := by decide +kernel
theorem dX1_shareOf_44 : decode cX1_shareOf 44 = .ok (.if_icmp .ge 47, 3) := by decide +kernel
theorem dX1_shareOf_47 : decode cX1_shareOf 47 = .ok (.iload 7, 2) := by decide +kernel
theorem dX1_shareOf_49 : decode cX1_shareOf 49 = .ok (.iload_n 3, 1) := by decide +kernel
theorem dX1_shareOf_50 : decode cX1_shareOf 50 = .ok (.aload_n 1, 1) := by decide +kernel
theorem dX1_shareOf_51 : decode cX1_shareOf 51 = .ok (.getfield 33, 3) := by decide +kernel
theorem dX1_shareOf_54 : decode cX1_shareOf 54 = .ok (.iload 8, 2) := by decide +kernel
theorem dX1_shareOf_56 : decode cX1_shareOf 56 = .ok (.iaload, 1) := by decide +kernel
theorem dX1_shareOf_57 : decode cX1_shareOf 57 = .ok (.imul, 1) := by decide +kernel
theorem dX1_shareOf_58 : decode cX1_shareOf 58 = .ok (.iload 5, 2) := by decide +kernel
theorem dX1_shareOf_60 : decode cX1_shareOf 60 = .ok (.idiv, 1) := by decide +kernel
theorem dX1_shareOf_61 : decode cX1_shareOf 61 = .ok (.isub, 1) := by decide +kernel
theorem dX1_shareOf_62 : decode cX1_shareOf 62 = .ok (.istore 7, 2) := by decide +kernel
theorem dX1_shareOf_64 : decode cX1_shareOf 64 = .ok (.aload_n 1, 1) := by decide +kernel
theorem dX1_shareOf_65 : decode cX1_shareOf 65 = .ok (.getfield 33, 3) := by decide +kernel
theorem dX1_shareOf_68 : decode cX1_shareOf 68 = .ok (.iload 8, 2) := by decide +kernel
theorem dX1_shareOf_70 : decode cX1_shareOf 70 = .ok (.iaload, 1) := by decide +kernel
theorem dX1_shareOf_71 : decode cX1_shareOf 71 = .ok (.aload_n 1, 1) := by decide +kernel
theorem dX1_shareOf_72 : decode cX1_shareOf 72 = .ok (.getfield 33, 3) := by decide +kernel
theorem dX1_shareOf_75 : decode cX1_shareOf 75 = .ok (.iload 6, 2) := by decide +kernel
theorem dX1_shareOf_77 : decode cX1_shareOf 77 = .ok (.iaload, 1) := by decide +kernel
theorem dX1_shareOf_78 : decode cX1_shareOf 78 = .ok (.if_icmp .le 7, 3) := by decide +kernel
theorem dX1_shareOf_81 : decode cX1_shareOf 81 = .ok (.iload 8, 2) := by decide +kernel
theorem dX1_shareOf_83 : decode cX1_shareOf 83 = .ok (.istore 6, 2) := by decide +kernel
theorem dX1_shareOf_85 : decode cX1_shareOf 85 = .ok (.iinc 8 1, 3) := by decide +kernel
theorem dX1_shareOf_88 : decode cX1_shareOf 88 = .ok (.goto (-51), 3) := by decide +kernel
theorem dX1_shareOf_91 : decode cX1_shareOf 91 = .ok (.iload_n 3, 1) := by decide +kernel
theorem dX1_shareOf_92 : decode cX1_shareOf 92 = .ok (.aload_n 1, 1) := by decide +kernel
theorem dX1_shareOf_93 : decode cX1_shareOf 93 = .ok (.getfield 33, 3) := by decide +kernel
theorem dX1_shareOf_96 : decode cX1_shareOf 96 = .ok (.iload_n 2, 1) := by decide +kernel
theorem dX1_shareOf_97 : decode cX1_shareOf 97 = .ok (.iaload, 1) := by decide +kernel
theorem dX1_shareOf_98 : decode cX1_shareOf 98 = .ok (.imul, 1) := by decide +kernel
theorem dX1_shareOf_99 : decode cX1_shareOf 99 = .ok (.iload 5, 2) := by decide +kernel
theorem dX1_shareOf_101 : decode cX1_shareOf 101 = .ok (.idiv, 1) := by decide +kernel
theorem dX1_shareOf_102 : decode cX1_shareOf 102 = .ok (.iload_n 2, 1) := by decide +kernel
theorem dX1_shareOf_103 : decode cX1_shareOf 103 = .ok (.iload 6, 2) := by decide +kernel
theorem dX1_shareOf_105 : decode cX1_shareOf 105 = .ok (.if_icmp .ne 8, 3) := by decide +kernel
theorem dX1_shareOf_108 : decode cX1_shareOf 108 = .ok (.iload 7, 2) := by decide +kernel
theorem dX1_shareOf_110 : decode cX1_shareOf 110 = .ok (.goto 4, 3) := by decide +kernel
theorem dX1_shareOf_113 : decode cX1_shareOf 113 = .ok (.iconst 0, 1) := by decide +kernel
theorem dX1_shareOf_114 : decode cX1_shareOf 114 = .ok (.iadd, 1) := by decide +kernel
theorem dX1_shareOf_115 : decode cX1_shareOf 115 = .ok (.ireturn, 1) := by decide +kernel
theorem dX2_init_0 : decode cX2_init 0 = .ok (.aload_n 0, 1) := by decide +kernel
theorem dX2_init_1 : decode cX2_init 1 = .ok (.invokespecial 3, 3) := by decide +kernel
theorem dX2_init_4 : decode cX2_init 4 = .ok (.aload_n 0, 1) := by decide +kernel
theorem dX2_init_5 : decode cX2_init 5 = .ok (.sipush 2400, 3) := by decide +kernel
theorem dX2_init_8 : decode cX2_init 8 = .ok (.newarray .int, 2) := by decide +kernel
theorem dX2_init_10 : decode cX2_init 10 = .ok (.putfield 9, 3) := by decide +kernel
theorem dX2_init_13 : decode cX2_init 13 = .ok (.aload_n 0, 1) := by decide +kernel
theorem dX2_init_14 : decode cX2_init 14 = .ok (.bipush 80, 2) := by decide +kernel
theorem dX2_init_16 : decode cX2_init 16 = .ok (.newarray .int, 2) := by decide +kernel
theorem dX2_init_18 : decode cX2_init 18 = .ok (.putfield 15, 3) := by decide +kernel
theorem dX2_init_21 : decode cX2_init 21 = .ok (.aload_n 0, 1) := by decide +kernel
theorem dX2_init_22 : decode cX2_init 22 = .ok (.sipush 201, 3) := by decide +kernel
theorem dX2_init_25 : decode cX2_init 25 = .ok (.newarray .int, 2) := by decide +kernel
theorem dX2_init_27 : decode cX2_init 27 = .ok (.putfield 18, 3) := by decide +kernel
theorem dX2_init_30 : decode cX2_init 30 = .ok (.return_, 1) := by decide +kernel
theorem dX2_forget_0 : decode cX2_forget 0 = .ok (.aload_n 0, 1) := by decide +kernel
theorem dX2_forget_1 : decode cX2_forget 1 = .ok (.getfield 15, 3) := by decide +kernel
theorem dX2_forget_4 : decode cX2_forget 4 = .ok (.iconst 0, 1) := by decide +kernel
theorem dX2_forget_5 : decode cX2_forget 5 = .ok (.invokestatic 21, 3) := by decide +kernel
theorem dX2_forget_8 : decode cX2_forget 8 = .ok (.aload_n 0, 1) := by decide +kernel
theorem dX2_forget_9 : decode cX2_forget 9 = .ok (.getfield 18, 3) := by decide +kernel
theorem dX2_forget_12 : decode cX2_forget 12 = .ok (.iconst 0, 1) := by decide +kernel
theorem dX2_forget_13 : decode cX2_forget 13 = .ok (.invokestatic 21, 3) := by decide +kernel
theorem dX2_forget_16 : decode cX2_forget 16 = .ok (.aload_n 0, 1) := by decide +kernel
theorem dX2_forget_17 : decode cX2_forget 17 = .ok (.iconst 0, 1) := by decide +kernel
theorem dX2_forget_18 : decode cX2_forget 18 = .ok (.putfield 27, 3) := by decide +kernel
theorem dX2_forget_21 : decode cX2_forget 21 = .ok (.aload_n 0, 1) := by decide +kernel
theorem dX2_forget_22 : decode cX2_forget 22 = .ok (.iconst 0, 1) := by decide +kernel
theorem dX2_forget_23 : decode cX2_forget 23 = .ok (.putfield 31, 3) := by decide +kernel
theorem dX2_forget_26 : decode cX2_forget 26 = .ok (.aload_n 0, 1) := by decide +kernel
theorem dX2_forget_27 : decode cX2_forget 27 = .ok (.iconst 0, 1) := by decide +kernel
theorem dX2_forget_28 : decode cX2_forget 28 = .ok (.putfield 34, 3) := by decide +kernel
theorem dX2_forget_31 : decode cX2_forget 31 = .ok (.aload_n 0, 1) := by decide +kernel
theorem dX2_forget_32 : decode cX2_forget 32 = .ok (.iconst 0, 1) := by decide +kernel
theorem dX2_forget_33 : decode cX2_forget 33 = .ok (.putfield 37, 3) := by decide +kernel
theorem dX2_forget_36 : decode cX2_forget 36 = .ok (.aload_n 0, 1) := by decide +kernel
theorem dX2_forget_37 : decode cX2_forget 37 = .ok (.iconst 0, 1) := by decide +kernel
theorem dX2_forget_38 : decode cX2_forget 38 = .ok (.putfield 40, 3) := by decide +kernel
theorem dX2_forget_41 : decode cX2_forget 41 = .ok (.return_, 1) := by decide +kernel
theorem dX2_copy_0 : decode cX2_copy 0 = .ok (.aload_n 1, 1) := by decide +kernel
theorem dX2_copy_1 : decode cX2_copy 1 = .ok (.getfield 9, 3) := by decide +kernel
theorem dX2_copy_4 : decode cX2_copy 4 = .ok (.iconst 0, 1) := by decide +kernel
theorem dX2_copy_5 : decode cX2_copy 5 = .ok (.aload_n 0, 1) := by decide +kernel
theorem dX2_copy_6 : decode cX2_copy 6 = .ok (.getfield 9, 3) := by decide +kernel
theorem dX2_copy_9 : decode cX2_copy 9 = .ok (.iconst 0, 1) := by decide +kernel
theorem dX2_copy_10 : decode cX2_copy 10 = .ok (.aload_n 0, 1) := by decide +kernel
theorem dX2_copy_11 : decode cX2_copy 11 = .ok (.getfield 9, 3) := by decide +kernel
theorem dX2_copy_14 : decode cX2_copy 14 = .ok (.arraylength, 1) := by decide +kernel
theorem dX2_copy_15 : decode cX2_copy 15 = .ok (.invokestatic 43, 3) := by decide +kernel
theorem dX2_copy_18 : decode cX2_copy 18 = .ok (.aload_n 1, 1) := by decide +kernel
theorem dX2_copy_19 : decode cX2_copy 19 = .ok (.getfield 15, 3) := by decide +kernel
theorem dX2_copy_22 : decode cX2_copy 22 = .ok (.iconst 0, 1) := by decide +kernel
theorem dX2_copy_23 : decode cX2_copy 23 = .ok (.aload_n 0, 1) := by decide +kernel
theorem dX2_copy_24 : decode cX2_copy 24 = .ok (.getfield 15, 3) := by decide +kernel
theorem dX2_copy_27 : decode cX2_copy 27 = .ok (.iconst 0, 1) := by decide +kernel
theorem dX2_copy_28 : decode cX2_copy 28 = .ok (.aload_n 0, 1) := by decide +kernel
theorem dX2_copy_29 : decode cX2_copy 29 = .ok (.getfield 15, 3) := by decide +kernel
theorem dX2_copy_32 : decode cX2_copy 32 = .ok (.arraylength, 1) := by decide +kernel
theorem dX2_copy_33 : decode cX2_copy 33 = .ok (.invokestatic 43, 3) := by decide +kernel
theorem dX2_copy_36 : decode cX2_copy 36 = .ok (.aload_n 1, 1) := by decide +kernel
theorem dX2_copy_37 : decode cX2_copy 37 = .ok (.getfield 18, 3) := by decide +kernel
theorem dX2_copy_40 : decode cX2_copy 40 = .ok (.iconst 0, 1) := by decide +kernel
theorem dX2_copy_41 : decode cX2_copy 41 = .ok (.aload_n 0, 1) := by decide +kernel
theorem dX2_copy_42 : decode cX2_copy 42 = .ok (.getfield 18, 3) := by decide +kernel
theorem dX2_copy_45 : decode cX2_copy 45 = .ok (.iconst 0, 1) := by decide +kernel
theorem dX2_copy_46 : decode cX2_copy 46 = .ok (.aload_n 0, 1) := by decide +kernel
theorem dX2_copy_47 : decode cX2_copy 47 = .ok (.getfield 18, 3) := by decide +kernel
theorem dX2_copy_50 : decode cX2_copy 50 = .ok (.arraylength, 1) := by decide +kernel
theorem dX2_copy_51 : decode cX2_copy 51 = .ok (.invokestatic 43, 3) := by decide +kernel
theorem dX2_copy_54 : decode cX2_copy 54 = .ok (.aload_n 0, 1) := by decide +kernel
theorem dX2_copy_55 : decode cX2_copy 55 = .ok (.aload_n 1, 1) := by decide +kernel
theorem dX2_copy_56 : decode cX2_copy 56 = .ok (.getfield 27, 3) := by decide +kernel
theorem dX2_copy_59 : decode cX2_copy 59 = .ok (.putfield 27, 3) := by decide +kernel
theorem dX2_copy_62 : decode cX2_copy 62 = .ok (.aload_n 0, 1) := by decide +kernel
theorem dX2_copy_63 : decode cX2_copy 63 = .ok (.aload_n 1, 1) := by decide +kernel
theorem dX2_copy_64 : decode cX2_copy 64 = .ok (.getfield 31, 3) := by decide +kernel
theorem dX2_copy_67 : decode cX2_copy 67 = .ok (.putfield 31, 3) := by decide +kernel
theorem dX2_copy_70 : decode cX2_copy 70 = .ok (.aload_n 0, 1) := by decide +kernel
theorem dX2_copy_71 : decode cX2_copy 71 = .ok (.aload_n 1, 1) := by decide +kernel
theorem dX2_copy_72 : decode cX2_copy 72 = .ok (.getfield 34, 3) := by decide +kernel
theorem dX2_copy_75 : decode cX2_copy 75 = .ok (.putfield 34, 3) := by decide +kernel
theorem dX2_copy_78 : decode cX2_copy 78 = .ok (.aload_n 0, 1) := by decide +kernel
theorem dX2_copy_79 : decode cX2_copy 79 = .ok (.aload_n 1, 1) := by decide +kernel
theorem dX2_copy_80 : decode cX2_copy 80 = .ok (.getfield 37, 3) := by decide +kernel
theorem dX2_copy_83 : decode cX2_copy 83 = .ok (.putfield 37, 3) := by decide +kernel
theorem dX2_copy_86 : decode cX2_copy 86 = .ok (.aload_n 0, 1) := by decide +kernel
theorem dX2_copy_87 : decode cX2_copy 87 = .ok (.aload_n 1, 1) := by decide +kernel
theorem dX2_copy_88 : decode cX2_copy 88 = .ok (.getfield 40, 3) := by decide +kernel
theorem dX2_copy_91 : decode cX2_copy 91 = .ok (.putfield 40, 3) := by decide +kernel
theorem dX2_copy_94 : decode cX2_copy 94 = .ok (.return_, 1) := by decide +kernel
theorem dX2_isBroken_0 : decode cX2_isBroken 0 = .ok (.aload_n 0, 1) := by decide +kernel
theorem dX2_isBroken_1 : decode cX2_isBroken 1 = .ok (.getfield 37, 3) := by decide +kernel
theorem dX2_isBroken_4 : decode cX2_isBroken 4 = .ok (.iload_n 1, 1) := by decide +kernel
theorem dX2_isBroken_5 : decode cX2_isBroken 5 = .ok (.ishr, 1) := by decide +kernel
theorem dX2_isBroken_6 : decode cX2_isBroken 6 = .ok (.iconst 1, 1) := by decide +kernel
theorem dX2_isBroken_7 : decode cX2_isBroken 7 = .ok (.iand, 1) := by decide +kernel
theorem dX2_isBroken_8 : decode cX2_isBroken 8 = .ok (.iconst 1, 1) := by decide +kernel
theorem dX2_isBroken_9 : decode cX2_isBroken 9 = .ok (.if_icmp .ne 7, 3) := by decide +kernel
theorem dX2_isBroken_12 : decode cX2_isBroken 12 = .ok (.iconst 1, 1) := by decide +kernel
theorem dX2_isBroken_13 : decode cX2_isBroken 13 = .ok (.goto 4, 3) := by decide +kernel
theorem dX2_isBroken_16 : decode cX2_isBroken 16 = .ok (.iconst 0, 1) := by decide +kernel
theorem dX2_isBroken_17 : decode cX2_isBroken 17 = .ok (.ireturn, 1) := by decide +kernel
theorem dX2_shown_0 : decode cX2_shown 0 = .ok (.aload_n 0, 1) := by decide +kernel
theorem dX2_shown_1 : decode cX2_shown 1 = .ok (.getfield 15, 3) := by decide +kernel
theorem dX2_shown_4 : decode cX2_shown 4 = .ok (.iload_n 1, 1) := by decide +kernel
theorem dX2_shown_5 : decode cX2_shown 5 = .ok (.iaload, 1) := by decide +kernel
theorem dX2_shown_6 : decode cX2_shown 6 = .ok (.ifCond .ne 7, 3) := by decide +kernel
theorem dX2_shown_9 : decode cX2_shown 9 = .ok (.iconst 0, 1) := by decide +kernel
theorem dX2_shown_10 : decode cX2_shown 10 = .ok (.goto 21, 3) := by decide +kernel
theorem dX2_shown_13 : decode cX2_shown 13 = .ok (.aload_n 0, 1) := by decide +kernel
theorem dX2_shown_14 : decode cX2_shown 14 = .ok (.getfield 9, 3) := by decide +kernel
theorem dX2_shown_17 : decode cX2_shown 17 = .ok (.bipush 30, 2) := by decide +kernel
theorem dX2_shown_19 : decode cX2_shown 19 = .ok (.iload_n 1, 1) := by decide +kernel
theorem dX2_shown_20 : decode cX2_shown 20 = .ok (.imul, 1) := by decide +kernel
theorem dX2_shown_21 : decode cX2_shown 21 = .ok (.aload_n 0, 1) := by decide +kernel
theorem dX2_shown_22 : decode cX2_shown 22 = .ok (.getfield 15, 3) := by decide +kernel
theorem dX2_shown_25 : decode cX2_shown 25 = .ok (.iload_n 1, 1) := by decide +kernel
theorem dX2_shown_26 : decode cX2_shown 26 = .ok (.iaload, 1) := by decide +kernel
theorem dX2_shown_27 : decode cX2_shown 27 = .ok (.iadd, 1) := by decide +kernel
theorem dX2_shown_28 : decode cX2_shown 28 = .ok (.iconst 1, 1) := by decide +kernel
theorem dX2_shown_29 : decode cX2_shown 29 = .ok (.isub, 1) := by decide +kernel
theorem dX2_shown_30 : decode cX2_shown 30 = .ok (.iaload, 1) := by decide +kernel
theorem dX2_shown_31 : decode cX2_shown 31 = .ok (.ireturn, 1) := by decide +kernel
theorem dX2_behind_0 : decode cX2_behind 0 = .ok (.iload_n 2, 1) := by decide +kernel
theorem dX2_behind_1 : decode cX2_behind 1 = .ok (.ifCond .lt 13, 3) := by decide +kernel
theorem dX2_behind_4 : decode cX2_behind 4 = .ok (.iload_n 2, 1) := by decide +kernel
theorem dX2_behind_5 : decode cX2_behind 5 = .ok (.aload_n 0, 1) := by decide +kernel
theorem dX2_behind_6 : decode cX2_behind 6 = .ok (.getfield 15, 3) := by decide +kernel
theorem dX2_behind_9 : decode cX2_behind 9 = .ok (.iload_n 1, 1) := by decide +kernel
theorem dX2_behind_10 : decode cX2_behind 10 = .ok (.iaload, 1) := by decide +kernel
theorem dX2_behind_11 : decode cX2_behind 11 = .ok (.if_icmp .lt 7, 3) := by decide +kernel
theorem dX2_behind_14 : decode cX2_behind 14 = .ok (.iconst 0, 1) := by decide +kernel
theorem dX2_behind_15 : decode cX2_behind 15 = .ok (.goto 23, 3) := by decide +kernel
theorem dX2_behind_18 : decode cX2_behind 18 = .ok (.aload_n 0, 1) := by decide +kernel
theorem dX2_behind_19 : decode cX2_behind 19 = .ok (.getfield 9, 3) := by decide +kernel
theorem dX2_behind_22 : decode cX2_behind 22 = .ok (.bipush 30, 2) := by decide +kernel
theorem dX2_behind_24 : decode cX2_behind 24 = .ok (.iload_n 1, 1) := by decide +kernel
theorem dX2_behind_25 : decode cX2_behind 25 = .ok (.imul, 1) := by decide +kernel
theorem dX2_behind_26 : decode cX2_behind 26 = .ok (.aload_n 0, 1) := by decide +kernel
theorem dX2_behind_27 : decode cX2_behind 27 = .ok (.getfield 15, 3) := by decide +kernel
theorem dX2_behind_30 : decode cX2_behind 30 = .ok (.iload_n 1, 1) := by decide +kernel
theorem dX2_behind_31 : decode cX2_behind 31 = .ok (.iaload, 1) := by decide +kernel
theorem dX2_behind_32 : decode cX2_behind 32 = .ok (.iadd, 1) := by decide +kernel
theorem dX2_behind_33 : decode cX2_behind 33 = .ok (.iconst 1, 1) := by decide +kernel
theorem dX2_behind_34 : decode cX2_behind 34 = .ok (.isub, 1) := by decide +kernel
theorem dX2_behind_35 : decode cX2_behind 35 = .ok (.iload_n 2, 1) := by decide +kernel
theorem dX2_behind_36 : decode cX2_behind 36 = .ok (.isub, 1) := by decide +kernel
theorem dX2_behind_37 : decode cX2_behind 37 = .ok (.iaload, 1) := by decide +kernel
theorem dX2_behind_38 : decode cX2_behind 38 = .ok (.ireturn, 1) := by decide +kernel
theorem dX2_outsideOf_0 : decode cX2_outsideOf 0 = .ok (.iconst 0, 1) := by decide +kernel
theorem dX2_outsideOf_1 : decode cX2_outsideOf 1 = .ok (.istore_n 3, 1) := by decide +kernel
theorem dX2_outsideOf_2 : decode cX2_outsideOf 2 = .ok (.iload_n 3, 1) := by decide +kernel
theorem dX2_outsideOf_3 : decode cX2_outsideOf 3 = .ok (.aload_n 0, 1) := by decide +kernel
theorem dX2_outsideOf_4 : decode cX2_outsideOf 4 = .ok (.getfield 15, 3) := by decide +kernel
theorem dX2_outsideOf_7 : decode cX2_outsideOf 7 = .ok (.iload_n 1, 1) := by decide +kernel
theorem dX2_outsideOf_8 : decode cX2_outsideOf 8 = .ok (.iaload, 1) := by decide +kernel
theorem dX2_outsideOf_9 : decode cX2_outsideOf 9 = .ok (.if_icmp .ge 21, 3) := by decide +kernel
theorem dX2_outsideOf_12 : decode cX2_outsideOf 12 = .ok (.aload_n 0, 1) := by decide +kernel
theorem dX2_outsideOf_13 : decode cX2_outsideOf 13 = .ok (.iload_n 1, 1) := by decide +kernel
theorem dX2_outsideOf_14 : decode cX2_outsideOf 14 = .ok (.iload_n 3, 1) := by decide +kernel
theorem dX2_outsideOf_15 : decode cX2_outsideOf 15 = .ok (.invokevirtual 49, 3) := by decide +kernel
theorem dX2_outsideOf_18 : decode cX2_outsideOf 18 = .ok (.iload_n 2, 1) := by decide +kernel
theorem dX2_outsideOf_19 : decode cX2_outsideOf 19 = .ok (.if_icmp .ne 5, 3) := by decide +kernel
theorem dX2_outsideOf_22 : decode cX2_outsideOf 22 = .ok (.iload_n 3, 1) := by decide +kernel
theorem dX2_outsideOf_23 : decode cX2_outsideOf 23 = .ok (.ireturn, 1) := by decide +kernel
theorem dX2_outsideOf_24 : decode cX2_outsideOf 24 = .ok (.iinc 3 1, 3) := by decide +kernel
theorem dX2_outsideOf_27 : decode cX2_outsideOf 27 = .ok (.goto (-25), 3) := by decide +kernel
theorem dX2_outsideOf_30 : decode cX2_outsideOf 30 = .ok (.iconst (-1), 1) := by decide +kernel
theorem dX2_outsideOf_31 : decode cX2_outsideOf 31 = .ok (.ireturn, 1) := by decide +kernel
theorem dX2_filmsOn_0 : decode cX2_filmsOn 0 = .ok (.iconst 0, 1) := by decide +kernel
theorem dX2_filmsOn_1 : decode cX2_filmsOn 1 = .ok (.istore_n 2, 1) := by decide +kernel
theorem dX2_filmsOn_2 : decode cX2_filmsOn 2 = .ok (.iconst 0, 1) := by decide +kernel
theorem dX2_filmsOn_3 : decode cX2_filmsOn 3 = .ok (.istore_n 3, 1) := by decide +kernel
theorem dX2_filmsOn_4 : decode cX2_filmsOn 4 = .ok (.iload_n 3, 1) := by decide +kernel
theorem dX2_filmsOn_5 : decode cX2_filmsOn 5 = .ok (.bipush 16, 2) := by decide +kernel
theorem dX2_filmsOn_7 : decode cX2_filmsOn 7 = .ok (.if_icmp .ge 23, 3) := by decide +kernel
theorem dX2_filmsOn_10 : decode cX2_filmsOn 10 = .ok (.iload_n 2, 1) := by decide +kernel
theorem dX2_filmsOn_11 : decode cX2_filmsOn 11 = .ok (.aload_n 0, 1) := by decide +kernel
theorem dX2_filmsOn_12 : decode cX2_filmsOn 12 = .ok (.getfield 15, 3) := by decide +kernel
theorem dX2_filmsOn_15 : decode cX2_filmsOn 15 = .ok (.bipush 16, 2) := by decide +kernel
theorem dX2_filmsOn_17 : decode cX2_filmsOn 17 = .ok (.iload_n 1, 1) := by decide +kernel
theorem dX2_filmsOn_18 : decode cX2_filmsOn 18 = .ok (.imul, 1) := by decide +kernel
theorem dX2_filmsOn_19 : decode cX2_filmsOn 19 = .ok (.iload_n 3, 1) := by decide +kernel
theorem dX2_filmsOn_20 : decode cX2_filmsOn 20 = .ok (.iadd, 1) := by decide +kernel
theorem dX2_filmsOn_21 : decode cX2_filmsOn 21 = .ok (.iaload, 1) := by decide +kernel
theorem dX2_filmsOn_22 : decode cX2_filmsOn 22 = .ok (.iadd, 1) := by decide +kernel
theorem dX2_filmsOn_23 : decode cX2_filmsOn 23 = .ok (.istore_n 2, 1) := by decide +kernel
theorem dX2_filmsOn_24 : decode cX2_filmsOn 24 = .ok (.iinc 3 1, 3) := by decide +kernel
theorem dX2_filmsOn_27 : decode cX2_filmsOn 27 = .ok (.goto (-23), 3) := by decide +kernel
theorem dX2_filmsOn_30 : decode cX2_filmsOn 30 = .ok (.iload_n 2, 1) := by decide +kernel
theorem dX2_filmsOn_31 : decode cX2_filmsOn 31 = .ok (.ireturn, 1) := by decide +kernel
theorem dX2_filmsOnAll_0 : decode cX2_filmsOnAll 0 = .ok (.iconst 0, 1) := by decide +kernel
theorem dX2_filmsOnAll_1 : decode cX2_filmsOnAll 1 = .ok (.istore_n 1, 1) := by decide +kernel
theorem dX2_filmsOnAll_2 : decode cX2_filmsOnAll 2 = .ok (.iconst 0, 1) := by decide +kernel
theorem dX2_filmsOnAll_3 : decode cX2_filmsOnAll 3 = .ok (.istore_n 2, 1) := by decide +kernel
theorem dX2_filmsOnAll_4 : decode cX2_filmsOnAll 4 = .ok (.iload_n 2, 1) := by decide +kernel
theorem dX2_filmsOnAll_5 : decode cX2_filmsOnAll 5 = .ok (.iconst 5, 1) := by decide +kernel
theorem dX2_filmsOnAll_6 : decode cX2_filmsOnAll 6 = .ok (.if_icmp .ge 17, 3) := by decide +kernel
theorem dX2_filmsOnAll_9 : decode cX2_filmsOnAll 9 = .ok (.iload_n 1, 1) := by decide +kernel
theorem dX2_filmsOnAll_10 : decode cX2_filmsOnAll 10 = .ok (.aload_n 0, 1) := by decide +kernel
theorem dX2_filmsOnAll_11 : decode cX2_filmsOnAll 11 = .ok (.iload_n 2, 1) := by decide +kernel
theorem dX2_filmsOnAll_12 : decode cX2_filmsOnAll 12 = .ok (.invokevirtual 53, 3) := by decide +kernel
theorem dX2_filmsOnAll_15 : decode cX2_filmsOnAll 15 = .ok (.iadd, 1) := by decide +kernel
theorem dX2_filmsOnAll_16 : decode cX2_filmsOnAll 16 = .ok (.istore_n 1, 1) := by decide +kernel
theorem dX2_filmsOnAll_17 : decode cX2_filmsOnAll 17 = .ok (.iinc 2 1, 3) := by decide +kernel
theorem dX2_filmsOnAll_20 : decode cX2_filmsOnAll 20 = .ok (.goto (-16), 3) := by decide +kernel
theorem dX2_filmsOnAll_23 : decode cX2_filmsOnAll 23 = .ok (.iload_n 1, 1) := by decide +kernel
theorem dX2_filmsOnAll_24 : decode cX2_filmsOnAll 24 = .ok (.ireturn, 1) := by decide +kernel
theorem dX2_filmsOf_0 : decode cX2_filmsOf 0 = .ok (.iconst 0, 1) := by decide +kernel
theorem dX2_filmsOf_1 : decode cX2_filmsOf 1 = .ok (.istore_n 2, 1) := by decide +kernel
theorem dX2_filmsOf_2 : decode cX2_filmsOf 2 = .ok (.iconst 0, 1) := by decide +kernel
theorem dX2_filmsOf_3 : decode cX2_filmsOf 3 = .ok (.istore_n 3, 1) := by decide +kernel
theorem dX2_filmsOf_4 : decode cX2_filmsOf 4 = .ok (.iload_n 3, 1) := by decide +kernel
theorem dX2_filmsOf_5 : decode cX2_filmsOf 5 = .ok (.bipush 80, 2) := by decide +kernel
theorem dX2_filmsOf_7 : decode cX2_filmsOf 7 = .ok (.if_icmp .ge 22, 3) := by decide +kernel
theorem dX2_filmsOf_10 : decode cX2_filmsOf 10 = .ok (.aload_n 0, 1) := by decide +kernel
theorem dX2_filmsOf_11 : decode cX2_filmsOf 11 = .ok (.iload_n 3, 1) := by decide +kernel
theorem dX2_filmsOf_12 : decode cX2_filmsOf 12 = .ok (.iload_n 1, 1) := by decide +kernel
theorem dX2_filmsOf_13 : decode cX2_filmsOf 13 = .ok (.invokevirtual 57, 3) := by decide +kernel
theorem dX2_filmsOf_16 : decode cX2_filmsOf 16 = .ok (.iconst (-1), 1) := by decide +kernel
theorem dX2_filmsOf_17 : decode cX2_filmsOf 17 = .ok (.if_icmp .eq 6, 3) := by decide +kernel
theorem dX2_filmsOf_20 : decode cX2_filmsOf 20 = .ok (.iinc 2 1, 3) := by decide +kernel
theorem dX2_filmsOf_23 : decode cX2_filmsOf 23 = .ok (.iinc 3 1, 3) := by decide +kernel
theorem dX2_filmsOf_26 : decode cX2_filmsOf 26 = .ok (.goto (-22), 3) := by decide +kernel
theorem dX2_filmsOf_29 : decode cX2_filmsOf 29 = .ok (.iload_n 2, 1) := by decide +kernel
theorem dX2_filmsOf_30 : decode cX2_filmsOf 30 = .ok (.ireturn, 1) := by decide +kernel
theorem dX2_thickest_0 : decode cX2_thickest 0 = .ok (.iconst (-1), 1) := by decide +kernel
theorem dX2_thickest_1 : decode cX2_thickest 1 = .ok (.istore_n 1, 1) := by decide +kernel
theorem dX2_thickest_2 : decode cX2_thickest 2 = .ok (.iconst 0, 1) := by decide +kernel
theorem dX2_thickest_3 : decode cX2_thickest 3 = .ok (.istore_n 2, 1) := by decide +kernel
theorem dX2_thickest_4 : decode cX2_thickest 4 = .ok (.iconst 0, 1) := by decide +kernel
theorem dX2_thickest_5 : decode cX2_thickest 5 = .ok (.istore_n 3, 1) := by decide +kernel
theorem dX2_thickest_6 : decode cX2_thickest 6 = .ok (.iload_n 3, 1) := by decide +kernel
theorem dX2_thickest_7 : decode cX2_thickest 7 = .ok (.bipush 80, 2) := by decide +kernel
theorem dX2_thickest_9 : decode cX2_thickest 9 = .ok (.if_icmp .ge 28, 3) := by decide +kernel
theorem dX2_thickest_12 : decode cX2_thickest 12 = .ok (.aload_n 0, 1) := by decide +kernel
theorem dX2_thickest_13 : decode cX2_thickest 13 = .ok (.getfield 15, 3) := by decide +kernel
theorem dX2_thickest_16 : decode cX2_thickest 16 = .ok (.iload_n 3, 1) := by decide +kernel
theorem dX2_thickest_17 : decode cX2_thickest 17 = .ok (.iaload, 1) := by decide +kernel
theorem dX2_thickest_18 : decode cX2_thickest 18 = .ok (.iload_n 2, 1) := by decide +kernel
theorem dX2_thickest_19 : decode cX2_thickest 19 = .ok (.if_icmp .le 12, 3) := by decide +kernel
theorem dX2_thickest_22 : decode cX2_thickest 22 = .ok (.aload_n 0, 1) := by decide +kernel
theorem dX2_thickest_23 : decode cX2_thickest 23 = .ok (.getfield 15, 3) := by decide +kernel
theorem dX2_thickest_26 : decode cX2_thickest 26 = .ok (.iload_n 3, 1) := by decide +kernel
theorem dX2_thickest_27 : decode cX2_thickest 27 = .ok (.iaload, 1) := by decide +kernel
theorem dX2_thickest_28 : decode cX2_thickest 28 = .ok (.istore_n 2, 1) := by decide +kernel
theorem dX2_thickest_29 : decode cX2_thickest 29 = .ok (.iload_n 3, 1) := by decide +kernel
theorem dX2_thickest_30 : decode cX2_thickest 30 = .ok (.istore_n 1, 1) := by decide +kernel
theorem dX2_thickest_31 : decode cX2_thickest 31 = .ok (.iinc 3 1, 3) := by decide +kernel
theorem dX2_thickest_34 : decode cX2_thickest 34 = .ok (.goto (-28), 3) := by decide +kernel
theorem dX2_thickest_37 : decode cX2_thickest 37 = .ok (.iload_n 1, 1) := by decide +kernel
theorem dX2_thickest_38 : decode cX2_thickest 38 = .ok (.ireturn, 1) := by decide +kernel
theorem dX2_wipe_0 : decode cX2_wipe 0 = .ok (.iconst 0, 1) := by decide +kernel
theorem dX2_wipe_1 : decode cX2_wipe 1 = .ok (.istore 4, 2) := by decide +kernel
theorem dX2_wipe_3 : decode cX2_wipe 3 = .ok (.iconst 0, 1) := by decide +kernel
theorem dX2_wipe_4 : decode cX2_wipe 4 = .ok (.istore 5, 2) := by decide +kernel
theorem dX2_wipe_6 : decode cX2_wipe 6 = .ok (.iload 5, 2) := by decide +kernel
theorem dX2_wipe_8 : decode cX2_wipe 8 = .ok (.bipush 16, 2) := by decide +kernel
theorem dX2_wipe_10 : decode cX2_wipe 10 = .ok (.if_icmp .ge 58, 3) := by decide +kernel
theorem dX2_wipe_13 : decode cX2_wipe 13 = .ok (.bipush 16, 2) := by decide +kernel
theorem dX2_wipe_15 : decode cX2_wipe 15 = .ok (.iload_n 1, 1) := by decide +kernel
theorem dX2_wipe_16 : decode cX2_wipe 16 = .ok (.imul, 1) := by decide +kernel
theorem dX2_wipe_17 : decode cX2_wipe 17 = .ok (.iload 5, 2) := by decide +kernel
theorem dX2_wipe_19 : decode cX2_wipe 19 = .ok (.iadd, 1) := by decide +kernel
theorem dX2_wipe_20 : decode cX2_wipe 20 = .ok (.istore 6, 2) := by decide +kernel
theorem dX2_wipe_22 : decode cX2_wipe 22 = .ok (.iload_n 2, 1) := by decide +kernel
theorem dX2_wipe_23 : decode cX2_wipe 23 = .ok (.iload 5, 2) := by decide +kernel
theorem dX2_wipe_25 : decode cX2_wipe 25 = .ok (.ishr, 1) := by decide +kernel
theorem dX2_wipe_26 : decode cX2_wipe 26 = .ok (.iconst 1, 1) := by decide +kernel
theorem dX2_wipe_27 : decode cX2_wipe 27 = .ok (.iand, 1) := by decide +kernel
theorem dX2_wipe_28 : decode cX2_wipe 28 = .ok (.iconst 1, 1) := by decide +kernel
theorem dX2_wipe_29 : decode cX2_wipe 29 = .ok (.if_icmp .ne 33, 3) := by decide +kernel
theorem dX2_wipe_32 : decode cX2_wipe 32 = .ok (.aload_n 0, 1) := by decide +kernel
theorem dX2_wipe_33 : decode cX2_wipe 33 = .ok (.getfield 15, 3) := by decide +kernel
theorem dX2_wipe_36 : decode cX2_wipe 36 = .ok (.iload 6, 2) := by decide +kernel
theorem dX2_wipe_38 : decode cX2_wipe 38 = .ok (.iaload, 1) := by decide +kernel
theorem dX2_wipe_39 : decode cX2_wipe 39 = .ok (.ifCond .le 23, 3) := by decide +kernel
theorem dX2_wipe_42 : decode cX2_wipe 42 = .ok (.aload_n 0, 1) := by decide +kernel
theorem dX2_wipe_43 : decode cX2_wipe 43 = .ok (.iload 6, 2) := by decide +kernel
theorem dX2_wipe_45 : decode cX2_wipe 45 = .ok (.iload_n 3, 1) := by decide +kernel
theorem dX2_wipe_46 : decode cX2_wipe 46 = .ok (.aload_n 0, 1) := by decide +kernel
theorem dX2_wipe_47 : decode cX2_wipe 47 = .ok (.getfield 15, 3) := by decide +kernel
theorem dX2_wipe_50 : decode cX2_wipe 50 = .ok (.iload 6, 2) := by decide +kernel
theorem dX2_wipe_52 : decode cX2_wipe 52 = .ok (.iaload, 1) := by decide +kernel
theorem dX2_wipe_53 : decode cX2_wipe 53 = .ok (.invokestatic 60, 3) := by decide +kernel
theorem dX2_wipe_56 : decode cX2_wipe 56 = .ok (.invokevirtual 65, 3) := by decide +kernel
theorem dX2_wipe_59 : decode cX2_wipe 59 = .ok (.iconst 1, 1) := by decide +kernel
theorem dX2_wipe_60 : decode cX2_wipe 60 = .ok (.istore 4, 2) := by decide +kernel
theorem dX2_wipe_62 : decode cX2_wipe 62 = .ok (.iinc 5 1, 3) := by decide +kernel
theorem dX2_wipe_65 : decode cX2_wipe 65 = .ok (.goto (-59), 3) := by decide +kernel
theorem dX2_wipe_68 : decode cX2_wipe 68 = .ok (.iload 4, 2) := by decide +kernel
theorem dX2_wipe_70 : decode cX2_wipe 70 = .ok (.ireturn, 1) := by decide +kernel
theorem dX2_wipeCell_0 : decode cX2_wipeCell 0 = .ok (.iconst 0, 1) := by decide +kernel
theorem dX2_wipeCell_1 : decode cX2_wipeCell 1 = .ok (.istore_n 3, 1) := by decide +kernel
theorem dX2_wipeCell_2 : decode cX2_wipeCell 2 = .ok (.iload_n 3, 1) := by decide +kernel
theorem dX2_wipeCell_3 : decode cX2_wipeCell 3 = .ok (.iload_n 2, 1) := by decide +kernel
theorem dX2_wipeCell_4 : decode cX2_wipeCell 4 = .ok (.if_icmp .ge 24, 3) := by decide +kernel
theorem dX2_wipeCell_7 : decode cX2_wipeCell 7 = .ok (.aload_n 0, 1) := by decide +kernel
theorem dX2_wipeCell_8 : decode cX2_wipeCell 8 = .ok (.getfield 18, 3) := by decide +kernel
theorem dX2_wipeCell_11 : decode cX2_wipeCell 11 = .ok (.aload_n 0, 1) := by decide +kernel
theorem dX2_wipeCell_12 : decode cX2_wipeCell 12 = .ok (.iload_n 1, 1) := by decide +kernel
theorem dX2_wipeCell_13 : decode cX2_wipeCell 13 = .ok (.iload_n 3, 1) := by decide +kernel
theorem dX2_wipeCell_14 : decode cX2_wipeCell 14 = .ok (.invokevirtual 49, 3) := by decide +kernel
theorem dX2_wipeCell_17 : decode cX2_wipeCell 17 = .ok (.dup2, 1) := by decide +kernel
theorem dX2_wipeCell_18 : decode cX2_wipeCell 18 = .ok (.iaload, 1) := by decide +kernel
theorem dX2_wipeCell_19 : decode cX2_wipeCell 19 = .ok (.iconst 1, 1) := by decide +kernel
theorem dX2_wipeCell_20 : decode cX2_wipeCell 20 = .ok (.iadd, 1) := by decide +kernel
theorem dX2_wipeCell_21 : decode cX2_wipeCell 21 = .ok (.iastore, 1) := by decide +kernel
theorem dX2_wipeCell_22 : decode cX2_wipeCell 22 = .ok (.iinc 3 1, 3) := by decide +kernel
theorem dX2_wipeCell_25 : decode cX2_wipeCell 25 = .ok (.goto (-23), 3) := by decide +kernel
theorem dX2_wipeCell_28 : decode cX2_wipeCell 28 = .ok (.aload_n 0, 1) := by decide +kernel
theorem dX2_wipeCell_29 : decode cX2_wipeCell 29 = .ok (.getfield 15, 3) := by decide +kernel
theorem dX2_wipeCell_32 : decode cX2_wipeCell 32 = .ok (.iload_n 1, 1) := by decide +kernel
theorem dX2_wipeCell_33 : decode cX2_wipeCell 33 = .ok (.dup2, 1) := by decide +kernel
theorem dX2_wipeCell_34 : decode cX2_wipeCell 34 = .ok (.iaload, 1) := by decide +kernel
theorem dX2_wipeCell_35 : decode cX2_wipeCell 35 = .ok (.iload_n 2, 1) := by decide +kernel
theorem dX2_wipeCell_36 : decode cX2_wipeCell 36 = .ok (.isub, 1) := by decide +kernel
theorem dX2_wipeCell_37 : decode cX2_wipeCell 37 = .ok (.iastore, 1) := by decide +kernel
theorem dX2_wipeCell_38 : decode cX2_wipeCell 38 = .ok (.aload_n 0, 1) := by decide +kernel
theorem dX2_wipeCell_39 : decode cX2_wipeCell 39 = .ok (.dup, 1) := by decide +kernel
theorem dX2_wipeCell_40 : decode cX2_wipeCell 40 = .ok (.getfield 27, 3) := by decide +kernel
theorem dX2_wipeCell_43 : decode cX2_wipeCell 43 = .ok (.iload_n 2, 1) := by decide +kernel
theorem dX2_wipeCell_44 : decode cX2_wipeCell 44 = .ok (.iadd, 1) := by decide +kernel
theorem dX2_wipeCell_45 : decode cX2_wipeCell 45 = .ok (.putfield 27, 3) := by decide +kernel
theorem dX2_wipeCell_48 : decode cX2_wipeCell 48 = .ok (.return_, 1) := by decide +kernel
theorem dX2_rinse_0 : decode cX2_rinse 0 = .ok (.aload_n 0, 1) := by decide +kernel
theorem dX2_rinse_1 : decode cX2_rinse 1 = .ok (.getfield 27, 3) := by decide +kernel
theorem dX2_rinse_4 : decode cX2_rinse 4 = .ok (.ifCond .le 7, 3) := by decide +kernel
theorem dX2_rinse_7 : decode cX2_rinse 7 = .ok (.iconst 1, 1) := by decide +kernel
theorem dX2_rinse_8 : decode cX2_rinse 8 = .ok (.goto 4, 3) := by decide +kernel
theorem dX2_rinse_11 : decode cX2_rinse 11 = .ok (.iconst 0, 1) := by decide +kernel
theorem dX2_rinse_12 : decode cX2_rinse 12 = .ok (.istore_n 1, 1) := by decide +kernel
theorem dX2_rinse_13 : decode cX2_rinse 13 = .ok (.aload_n 0, 1) := by decide +kernel
theorem dX2_rinse_14 : decode cX2_rinse 14 = .ok (.getfield 18, 3) := by decide +kernel
theorem dX2_rinse_17 : decode cX2_rinse 17 = .ok (.iconst 0, 1) := by decide +kernel
theorem dX2_rinse_18 : decode cX2_rinse 18 = .ok (.invokestatic 21, 3) := by decide +kernel
theorem dX2_rinse_21 : decode cX2_rinse 21 = .ok (.aload_n 0, 1) := by decide +kernel
theorem dX2_rinse_22 : decode cX2_rinse 22 = .ok (.iconst 0, 1) := by decide +kernel
theorem dX2_rinse_23 : decode cX2_rinse 23 = .ok (.putfield 27, 3) := by decide +kernel
theorem dX2_rinse_26 : decode cX2_rinse 26 = .ok (.iload_n 1, 1) := by decide +kernel
theorem dX2_rinse_27 : decode cX2_rinse 27 = .ok (.ireturn, 1) := by decide +kernel
theorem dX2_smash_0 : decode cX2_smash 0 = .ok (.aload_n 0, 1) := by decide +kernel
theorem dX2_smash_1 : decode cX2_smash 1 = .ok (.iload_n 1, 1) := by decide +kernel
theorem dX2_smash_2 : decode cX2_smash 2 = .ok (.invokevirtual 69, 3) := by decide +kernel
theorem dX2_smash_5 : decode cX2_smash 5 = .ok (.ifCond .eq 5, 3) := by decide +kernel
theorem dX2_smash_8 : decode cX2_smash 8 = .ok (.iconst 0, 1) := by decide +kernel
theorem dX2_smash_9 : decode cX2_smash 9 = .ok (.ireturn, 1) := by decide +kernel
theorem dX2_smash_10 : decode cX2_smash 10 = .ok (.aload_n 0, 1) := by decide +kernel
theorem dX2_smash_11 : decode cX2_smash 11 = .ok (.dup, 1) := by decide +kernel
theorem dX2_smash_12 : decode cX2_smash 12 = .ok (.getfield 37, 3) := by decide +kernel
theorem dX2_smash_15 : decode cX2_smash 15 = .ok (.iconst 1, 1) := by decide +kernel
theorem dX2_smash_16 : decode cX2_smash 16 = .ok (.iload_n 1, 1) := by decide +kernel
theorem dX2_smash_17 : decode cX2_smash 17 = .ok (.ishl, 1) := by decide +kernel
theorem dX2_smash_18 : decode cX2_smash 18 = .ok (.ior, 1) := by decide +kernel
theorem dX2_smash_19 : decode cX2_smash 19 = .ok (.putfield 37, 3) := by decide +kernel
theorem dX2_smash_22 : decode cX2_smash 22 = .ok (.iconst 0, 1) := by decide +kernel
theorem dX2_smash_23 : decode cX2_smash 23 = .ok (.istore_n 2, 1) := by decide +kernel
theorem dX2_smash_24 : decode cX2_smash 24 = .ok (.iload_n 2, 1) := by decide +kernel
theorem dX2_smash_25 : decode cX2_smash 25 = .ok (.bipush 16, 2) := by decide +kernel
theorem dX2_smash_27 : decode cX2_smash 27 = .ok (.if_icmp .ge 21, 3) := by decide +kernel
theorem dX2_smash_30 : decode cX2_smash 30 = .ok (.aload_n 0, 1) := by decide +kernel
theorem dX2_smash_31 : decode cX2_smash 31 = .ok (.getfield 15, 3) := by decide +kernel
theorem dX2_smash_34 : decode cX2_smash 34 = .ok (.bipush 16, 2) := by decide +kernel
theorem dX2_smash_36 : decode cX2_smash 36 = .ok (.iload_n 1, 1) := by decide +kernel
theorem dX2_smash_37 : decode cX2_smash 37 = .ok (.imul, 1) := by decide +kernel
theorem dX2_smash_38 : decode cX2_smash 38 = .ok (.iload_n 2, 1) := by decide +kernel
theorem dX2_smash_39 : decode cX2_smash 39 = .ok (.iadd, 1) := by decide +kernel
theorem dX2_smash_40 : decode cX2_smash 40 = .ok (.iconst 0, 1) := by decide +kernel
theorem dX2_smash_41 : decode cX2_smash 41 = .ok (.iastore, 1) := by decide +kernel
theorem dX2_smash_42 : decode cX2_smash 42 = .ok (.iinc 2 1, 3) := by decide +kernel
theorem dX2_smash_45 : decode cX2_smash 45 = .ok (.goto (-21), 3) := by decide +kernel
theorem dX2_smash_48 : decode cX2_smash 48 = .ok (.iconst 1, 1) := by decide +kernel
theorem dX2_smash_49 : decode cX2_smash 49 = .ok (.ireturn, 1) := by decide +kernel
theorem dX2_wash_0 : decode cX2_wash 0 = .ok (.iconst 0, 1) := by decide +kernel
theorem dX2_wash_1 : decode cX2_wash 1 = .ok (.istore_n 3, 1) := by decide +kernel
theorem dX2_wash_2 : decode cX2_wash 2 = .ok (.bipush 16, 2) := by decide +kernel
theorem dX2_wash_4 : decode cX2_wash 4 = .ok (.iload_n 1, 1) := by decide +kernel
theorem dX2_wash_5 : decode cX2_wash 5 = .ok (.imul, 1) := by decide +kernel
theorem dX2_wash_6 : decode cX2_wash 6 = .ok (.istore 4, 2) := by decide +kernel
theorem dX2_wash_8 : decode cX2_wash 8 = .ok (.iload 4, 2) := by decide +kernel
theorem dX2_wash_10 : decode cX2_wash 10 = .ok (.bipush 16, 2) := by decide +kernel
theorem dX2_wash_12 : decode cX2_wash 12 = .ok (.iload_n 1, 1) := by decide +kernel
theorem dX2_wash_13 : decode cX2_wash 13 = .ok (.imul, 1) := by decide +kernel
theorem dX2_wash_14 : decode cX2_wash 14 = .ok (.bipush 16, 2) := by decide +kernel
theorem dX2_wash_16 : decode cX2_wash 16 = .ok (.iadd, 1) := by decide +kernel
theorem dX2_wash_17 : decode cX2_wash 17 = .ok (.if_icmp .ge 39, 3) := by decide +kernel
theorem dX2_wash_20 : decode cX2_wash 20 = .ok (.iload_n 2, 1) := by decide +kernel
theorem dX2_wash_21 : decode cX2_wash 21 = .ok (.aload_n 0, 1) := by decide +kernel
theorem dX2_wash_22 : decode cX2_wash 22 = .ok (.getfield 15, 3) := by decide +kernel
theorem dX2_wash_25 : decode cX2_wash 25 = .ok (.iload 4, 2) := by decide +kernel
theorem dX2_wash_27 : decode cX2_wash 27 = .ok (.iaload, 1) := by decide +kernel
theorem dX2_wash_28 : decode cX2_wash 28 = .ok (.invokestatic 60, 3) := by decide +kernel
theorem dX2_wash_31 : decode cX2_wash 31 = .ok (.istore 5, 2) := by decide +kernel
theorem dX2_wash_33 : decode cX2_wash 33 = .ok (.aload_n 0, 1) := by decide +kernel
theorem dX2_wash_34 : decode cX2_wash 34 = .ok (.getfield 15, 3) := by decide +kernel
theorem dX2_wash_37 : decode cX2_wash 37 = .ok (.iload 4, 2) := by decide +kernel
theorem dX2_wash_39 : decode cX2_wash 39 = .ok (.dup2, 1) := by decide +kernel
theorem dX2_wash_40 : decode cX2_wash 40 = .ok (.iaload, 1) := by decide +kernel
theorem dX2_wash_41 : decode cX2_wash 41 = .ok (.iload 5, 2) := by decide +kernel
theorem dX2_wash_43 : decode cX2_wash 43 = .ok (.isub, 1) := by decide +kernel
theorem dX2_wash_44 : decode cX2_wash 44 = .ok (.iastore, 1) := by decide +kernel
theorem dX2_wash_45 : decode cX2_wash 45 = .ok (.iload_n 3, 1) := by decide +kernel
theorem dX2_wash_46 : decode cX2_wash 46 = .ok (.iload 5, 2) := by decide +kernel
theorem dX2_wash_48 : decode cX2_wash 48 = .ok (.iadd, 1) := by decide +kernel
theorem dX2_wash_49 : decode cX2_wash 49 = .ok (.istore_n 3, 1) := by decide +kernel
theorem dX2_wash_50 : decode cX2_wash 50 = .ok (.iinc 4 1, 3) := by decide +kernel
theorem dX2_wash_53 : decode cX2_wash 53 = .ok (.goto (-45), 3) := by decide +kernel
theorem dX2_wash_56 : decode cX2_wash 56 = .ok (.iload_n 3, 1) := by decide +kernel
theorem dX2_wash_57 : decode cX2_wash 57 = .ok (.ireturn, 1) := by decide +kernel
theorem dX2_settle_0 : decode cX2_settle 0 = .ok (.bipush 30, 2) := by decide +kernel
theorem dX2_settle_2 : decode cX2_settle 2 = .ok (.iload_n 1, 1) := by decide +kernel
theorem dX2_settle_3 : decode cX2_settle 3 = .ok (.imul, 1) := by decide +kernel
theorem dX2_settle_4 : decode cX2_settle 4 = .ok (.istore_n 3, 1) := by decide +kernel
theorem dX2_settle_5 : decode cX2_settle 5 = .ok (.aload_n 0, 1) := by decide +kernel
theorem dX2_settle_6 : decode cX2_settle 6 = .ok (.getfield 15, 3) := by decide +kernel
theorem dX2_settle_9 : decode cX2_settle 9 = .ok (.iload_n 1, 1) := by decide +kernel
theorem dX2_settle_10 : decode cX2_settle 10 = .ok (.iaload, 1) := by decide +kernel
theorem dX2_settle_11 : decode cX2_settle 11 = .ok (.iload_n 2, 1) := by decide +kernel
theorem dX2_settle_12 : decode cX2_settle 12 = .ok (.if_icmp .lt 36, 3) := by decide +kernel
theorem dX2_settle_15 : decode cX2_settle 15 = .ok (.aload_n 0, 1) := by decide +kernel
theorem dX2_settle_16 : decode cX2_settle 16 = .ok (.getfield 9, 3) := by decide +kernel
theorem dX2_settle_19 : decode cX2_settle 19 = .ok (.iload_n 3, 1) := by decide +kernel
theorem dX2_settle_20 : decode cX2_settle 20 = .ok (.iconst 1, 1) := by decide +kernel
theorem dX2_settle_21 : decode cX2_settle 21 = .ok (.iadd, 1) := by decide +kernel
theorem dX2_settle_22 : decode cX2_settle 22 = .ok (.aload_n 0, 1) := by decide +kernel
theorem dX2_settle_23 : decode cX2_settle 23 = .ok (.getfield 9, 3) := by decide +kernel
theorem dX2_settle_26 : decode cX2_settle 26 = .ok (.iload_n 3, 1) := by decide +kernel
theorem dX2_settle_27 : decode cX2_settle 27 = .ok (.aload_n 0, 1) := by decide +kernel
theorem dX2_settle_28 : decode cX2_settle 28 = .ok (.getfield 15, 3) := by decide +kernel
theorem dX2_settle_31 : decode cX2_settle 31 = .ok (.iload_n 1, 1) := by decide +kernel
theorem dX2_settle_32 : decode cX2_settle 32 = .ok (.iaload, 1) := by decide +kernel
theorem dX2_settle_33 : decode cX2_settle 33 = .ok (.iconst 1, 1) := by decide +kernel
theorem dX2_settle_34 : decode cX2_settle 34 = .ok (.isub, 1) := by decide +kernel
theorem dX2_settle_35 : decode cX2_settle 35 = .ok (.invokestatic 43, 3) := by decide +kernel
theorem dX2_settle_38 : decode cX2_settle 38 = .ok (.aload_n 0, 1) := by decide +kernel
theorem dX2_settle_39 : decode cX2_settle 39 = .ok (.getfield 15, 3) := by decide +kernel
theorem dX2_settle_42 : decode cX2_settle 42 = .ok (.iload_n 1, 1) := by decide +kernel
theorem dX2_settle_43 : decode cX2_settle 43 = .ok (.dup2, 1) := by decide +kernel
theorem dX2_settle_44 : decode cX2_settle 44 = .ok (.iaload, 1) := by decide +kernel
theorem dX2_settle_45 : decode cX2_settle 45 = .ok (.iconst 1, 1) := by decide +kernel
theorem dX2_settle_46 : decode cX2_settle 46 = .ok (.isub, 1) := by decide +kernel
theorem dX2_settle_47 : decode cX2_settle 47 = .ok (.iastore, 1) := by decide +kernel
theorem dX2_settle_48 : decode cX2_settle 48 = .ok (.aload_n 0, 1) := by decide +kernel
theorem dX2_settle_49 : decode cX2_settle 49 = .ok (.getfield 9, 3) := by decide +kernel
theorem dX2_settle_52 : decode cX2_settle 52 = .ok (.iload_n 3, 1) := by decide +kernel
theorem dX2_settle_53 : decode cX2_settle 53 = .ok (.aload_n 0, 1) := by decide +kernel
theorem dX2_settle_54 : decode cX2_settle 54 = .ok (.getfield 15, 3) := by decide +kernel
theorem dX2_settle_57 : decode cX2_settle 57 = .ok (.iload_n 1, 1) := by decide +kernel
theorem dX2_settle_58 : decode cX2_settle 58 = .ok (.iaload, 1) := by decide +kernel
theorem dX2_settle_59 : decode cX2_settle 59 = .ok (.iadd, 1) := by decide +kernel
theorem dX2_settle_60 : decode cX2_settle 60 = .ok (.aload_n 0, 1) := by decide +kernel
theorem dX2_settle_61 : decode cX2_settle 61 = .ok (.getfield 31, 3) := by decide +kernel
theorem dX2_settle_64 : decode cX2_settle 64 = .ok (.iastore, 1) := by decide +kernel
theorem dX2_settle_65 : decode cX2_settle 65 = .ok (.aload_n 0, 1) := by decide +kernel
theorem dX2_settle_66 : decode cX2_settle 66 = .ok (.getfield 15, 3) := by decide +kernel
theorem dX2_settle_69 : decode cX2_settle 69 = .ok (.iload_n 1, 1) := by decide +kernel
theorem dX2_settle_70 : decode cX2_settle 70 = .ok (.dup2, 1) := by decide +kernel
theorem dX2_settle_71 : decode cX2_settle 71 = .ok (.iaload, 1) := by decide +kernel
theorem dX2_settle_72 : decode cX2_settle 72 = .ok (.iconst 1, 1) := by decide +kernel
theorem dX2_settle_73 : decode cX2_settle 73 = .ok (.iadd, 1) := by decide +kernel
theorem dX2_settle_74 : decode cX2_settle 74 = .ok (.iastore, 1) := by decide +kernel
theorem dX2_settle_75 : decode cX2_settle 75 = .ok (.return_, 1) := by decide +kernel
theorem dX3_init_0 : decode cX3_init 0 = .ok (.aload_n 0, 1) := by decide +kernel
theorem dX3_init_1 : decode cX3_init 1 = .ok (.invokespecial 3, 3) := by decide +kernel
theorem dX3_init_4 : decode cX3_init 4 = .ok (.aload_n 0, 1) := by decide +kernel
theorem dX3_init_5 : decode cX3_init 5 = .ok (.sipush 150, 3) := by decide +kernel
theorem dX3_init_8 : decode cX3_init 8 = .ok (.newarray .int, 2) := by decide +kernel
theorem dX3_init_10 : decode cX3_init 10 = .ok (.putfield 9, 3) := by decide +kernel
theorem dX3_init_13 : decode cX3_init 13 = .ok (.aload_n 0, 1) := by decide +kernel
theorem dX3_init_14 : decode cX3_init 14 = .ok (.sipush 150, 3) := by decide +kernel
theorem dX3_init_17 : decode cX3_init 17 = .ok (.newarray .int, 2) := by decide +kernel
theorem dX3_init_19 : decode cX3_init 19 = .ok (.putfield 15, 3) := by decide +kernel
theorem dX3_init_22 : decode cX3_init 22 = .ok (.aload_n 0, 1) := by decide +kernel
theorem dX3_init_23 : decode cX3_init 23 = .ok (.invokevirtual 18, 3) := by decide +kernel
theorem dX3_init_26 : decode cX3_init 26 = .ok (.return_, 1) := by decide +kernel
theorem dX3_forget_0 : decode cX3_forget 0 = .ok (.aload_n 0, 1) := by decide +kernel
theorem dX3_forget_1 : decode cX3_forget 1 = .ok (.getfield 9, 3) := by decide +kernel
theorem dX3_forget_4 : decode cX3_forget 4 = .ok (.iconst 0, 1) := by decide +kernel
theorem dX3_forget_5 : decode cX3_forget 5 = .ok (.iconst 1, 1) := by decide +kernel
theorem dX3_forget_6 : decode cX3_forget 6 = .ok (.iastore, 1) := by decide +kernel
theorem dX3_forget_7 : decode cX3_forget 7 = .ok (.aload_n 0, 1) := by decide +kernel
theorem dX3_forget_8 : decode cX3_forget 8 = .ok (.iconst 1, 1) := by decide +kernel
theorem dX3_forget_9 : decode cX3_forget 9 = .ok (.putfield 21, 3) := by decide +kernel
theorem dX3_forget_12 : decode cX3_forget 12 = .ok (.return_, 1) := by decide +kernel
theorem dX3_read_0 : decode cX3_read 0 = .ok (.aload_n 0, 1) := by decide +kernel
theorem dX3_read_1 : decode cX3_read 1 = .ok (.iconst 0, 1) := by decide +kernel
theorem dX3_read_2 : decode cX3_read 2 = .ok (.putfield 21, 3) := by decide +kernel
theorem dX3_read_5 : decode cX3_read 5 = .ok (.aload_n 0, 1) := by decide +kernel
theorem dX3_read_6 : decode cX3_read 6 = .ok (.aload_n 1, 1) := by decide +kernel
theorem dX3_read_7 : decode cX3_read 7 = .ok (.iconst 0, 1) := by decide +kernel
theorem dX3_read_8 : decode cX3_read 8 = .ok (.invokevirtual 25, 3) := by decide +kernel
theorem dX3_read_11 : decode cX3_read 11 = .ok (.aload_n 1, 1) := by decide +kernel
theorem dX3_read_12 : decode cX3_read 12 = .ok (.invokevirtual 29, 3) := by decide +kernel
theorem dX3_read_15 : decode cX3_read 15 = .ok (.ireturn, 1) := by decide +kernel
theorem dX3_put_0 : decode cX3_put 0 = .ok (.aload_n 0, 1) := by decide +kernel
theorem dX3_put_1 : decode cX3_put 1 = .ok (.getfield 21, 3) := by decide +kernel
theorem dX3_put_4 : decode cX3_put 4 = .ok (.sipush 150, 3) := by decide +kernel
theorem dX3_put_7 : decode cX3_put 7 = .ok (.if_icmp .ge 23, 3) := by decide +kernel
theorem dX3_put_10 : decode cX3_put 10 = .ok (.aload_n 0, 1) := by decide +kernel
theorem dX3_put_11 : decode cX3_put 11 = .ok (.getfield 9, 3) := by decide +kernel
theorem dX3_put_14 : decode cX3_put 14 = .ok (.aload_n 0, 1) := by decide +kernel
theorem dX3_put_15 : decode cX3_put 15 = .ok (.getfield 21, 3) := by decide +kernel
theorem dX3_put_18 : decode cX3_put 18 = .ok (.iload_n 1, 1) := by decide +kernel
theorem dX3_put_19 : decode cX3_put 19 = .ok (.iastore, 1) := by decide +kernel
theorem dX3_put_20 : decode cX3_put 20 = .ok (.aload_n 0, 1) := by decide +kernel
theorem dX3_put_21 : decode cX3_put 21 = .ok (.dup, 1) := by decide +kernel
theorem dX3_put_22 : decode cX3_put 22 = .ok (.getfield 21, 3) := by decide +kernel
theorem dX3_put_25 : decode cX3_put 25 = .ok (.iconst 1, 1) := by decide +kernel
theorem dX3_put_26 : decode cX3_put 26 = .ok (.iadd, 1) := by decide +kernel
theorem dX3_put_27 : decode cX3_put 27 = .ok (.putfield 21, 3) := by decide +kernel
theorem dX3_put_30 : decode cX3_put 30 = .ok (.return_, 1) := by decide +kernel
theorem dX3_readSum_0 : decode cX3_readSum 0 = .ok (.aload_n 0, 1) := by decide +kernel
theorem dX3_readSum_1 : decode cX3_readSum 1 = .ok (.aload_n 1, 1) := by decide +kernel
theorem dX3_readSum_2 : decode cX3_readSum 2 = .ok (.iload_n 2, 1) := by decide +kernel
theorem dX3_readSum_3 : decode cX3_readSum 3 = .ok (.invokevirtual 35, 3) := by decide +kernel
theorem dX3_readSum_6 : decode cX3_readSum 6 = .ok (.iconst 0, 1) := by decide +kernel
theorem dX3_readSum_7 : decode cX3_readSum 7 = .ok (.istore_n 3, 1) := by decide +kernel
theorem dX3_readSum_8 : decode cX3_readSum 8 = .ok (.iload_n 3, 1) := by decide +kernel
theorem dX3_readSum_9 : decode cX3_readSum 9 = .ok (.sipush 150, 3) := by decide +kernel
theorem dX3_readSum_12 : decode cX3_readSum 12 = .ok (.if_icmp .ge 61, 3) := by decide +kernel
theorem dX3_readSum_15 : decode cX3_readSum 15 = .ok (.aload_n 1, 1) := by decide +kernel
theorem dX3_readSum_16 : decode cX3_readSum 16 = .ok (.bipush 43, 2) := by decide +kernel
theorem dX3_readSum_18 : decode cX3_readSum 18 = .ok (.invokevirtual 38, 3) := by decide +kernel
theorem dX3_readSum_21 : decode cX3_readSum 21 = .ok (.ifCond .ne 12, 3) := by decide +kernel
theorem dX3_readSum_24 : decode cX3_readSum 24 = .ok (.aload_n 1, 1) := by decide +kernel
theorem dX3_readSum_25 : decode cX3_readSum 25 = .ok (.bipush 45, 2) := by decide +kernel
theorem dX3_readSum_27 : decode cX3_readSum 27 = .ok (.invokevirtual 38, 3) := by decide +kernel
theorem dX3_readSum_30 : decode cX3_readSum 30 = .ok (.ifCond .eq 43, 3) := by decide +kernel
theorem dX3_readSum_33 : decode cX3_readSum 33 = .ok (.aload_n 1, 1) := by decide +kernel
theorem dX3_readSum_34 : decode cX3_readSum 34 = .ok (.bipush 43, 2) := by decide +kernel
theorem dX3_readSum_36 : decode cX3_readSum 36 = .ok (.invokevirtual 38, 3) := by decide +kernel
theorem dX3_readSum_39 : decode cX3_readSum 39 = .ok (.ifCond .eq 8, 3) := by decide +kernel
theorem dX3_readSum_42 : decode cX3_readSum 42 = .ok (.bipush (-9), 2) := by decide +kernel
theorem dX3_readSum_44 : decode cX3_readSum 44 = .ok (.goto 5, 3) := by decide +kernel
theorem dX3_readSum_47 : decode cX3_readSum 47 = .ok (.bipush (-10), 2) := by decide +kernel
theorem dX3_readSum_49 : decode cX3_readSum 49 = .ok (.istore 4, 2) := by decide +kernel
theorem dX3_readSum_51 : decode cX3_readSum 51 = .ok (.aload_n 1, 1) := by decide +kernel
theorem dX3_readSum_52 : decode cX3_readSum 52 = .ok (.invokevirtual 42, 3) := by decide +kernel
theorem dX3_readSum_55 : decode cX3_readSum 55 = .ok (.aload_n 0, 1) := by decide +kernel
theorem dX3_readSum_56 : decode cX3_readSum 56 = .ok (.aload_n 1, 1) := by decide +kernel
theorem dX3_readSum_57 : decode cX3_readSum 57 = .ok (.iload_n 2, 1) := by decide +kernel
theorem dX3_readSum_58 : decode cX3_readSum 58 = .ok (.invokevirtual 35, 3) := by decide +kernel
theorem dX3_readSum_61 : decode cX3_readSum 61 = .ok (.aload_n 0, 1) := by decide +kernel
theorem dX3_readSum_62 : decode cX3_readSum 62 = .ok (.iload 4, 2) := by decide +kernel
theorem dX3_readSum_64 : decode cX3_readSum 64 = .ok (.invokevirtual 45, 3) := by decide +kernel
theorem dX3_readSum_67 : decode cX3_readSum 67 = .ok (.iinc 3 1, 3) := by decide +kernel
theorem dX3_readSum_70 : decode cX3_readSum 70 = .ok (.goto (-62), 3) := by decide +kernel
theorem dX3_readSum_73 : decode cX3_readSum 73 = .ok (.return_, 1) := by decide +kernel
theorem dX3_readProduct_0 : decode cX3_readProduct 0 = .ok (.aload_n 0, 1) := by decide +kernel
theorem dX3_readProduct_1 : decode cX3_readProduct 1 = .ok (.aload_n 1, 1) := by decide +kernel
theorem dX3_readProduct_2 : decode cX3_readProduct 2 = .ok (.iload_n 2, 1) := by decide +kernel
theorem dX3_readProduct_3 : decode cX3_readProduct 3 = .ok (.invokevirtual 49, 3) := by decide +kernel
theorem dX3_readProduct_6 : decode cX3_readProduct 6 = .ok (.iconst 0, 1) := by decide +kernel
theorem dX3_readProduct_7 : decode cX3_readProduct 7 = .ok (.istore_n 3, 1) := by decide +kernel
theorem dX3_readProduct_8 : decode cX3_readProduct 8 = .ok (.iload_n 3, 1) := by decide +kernel
theorem dX3_readProduct_9 : decode cX3_readProduct 9 = .ok (.sipush 150, 3) := by decide +kernel
theorem dX3_readProduct_12 : decode cX3_readProduct 12 = .ok (.if_icmp .ge 78, 3) := by decide +kernel
theorem dX3_readProduct_15 : decode cX3_readProduct 15 = .ok (.aload_n 1, 1) := by decide +kernel
theorem dX3_readProduct_16 : decode cX3_readProduct 16 = .ok (.bipush 42, 2) := by decide +kernel
theorem dX3_readProduct_18 : decode cX3_readProduct 18 = .ok (.invokevirtual 38, 3) := by decide +kernel
theorem dX3_readProduct_21 : decode cX3_readProduct 21 = .ok (.ifCond .eq 8, 3) := by decide +kernel
theorem dX3_readProduct_24 : decode cX3_readProduct 24 = .ok (.bipush (-11), 2) := by decide +kernel
theorem dX3_readProduct_26 : decode cX3_readProduct 26 = .ok (.goto 32, 3) := by decide +kernel
theorem dX3_readProduct_29 : decode cX3_readProduct 29 = .ok (.aload_n 1, 1) := by decide +kernel
theorem dX3_readProduct_30 : decode cX3_readProduct 30 = .ok (.bipush 47, 2) := by decide +kernel
theorem dX3_readProduct_32 : decode cX3_readProduct 32 = .ok (.invokevirtual 38, 3) := by decide +kernel
theorem dX3_readProduct_35 : decode cX3_readProduct 35 = .ok (.ifCond .eq 8, 3) := by decide +kernel
theorem dX3_readProduct_38 : decode cX3_readProduct 38 = .ok (.bipush (-12), 2) := by decide +kernel
theorem dX3_readProduct_40 : decode cX3_readProduct 40 = .ok (.goto 18, 3) := by decide +kernel
theorem dX3_readProduct_43 : decode cX3_readProduct 43 = .ok (.aload_n 1, 1) := by decide +kernel
theorem dX3_readProduct_44 : decode cX3_readProduct 44 = .ok (.bipush 37, 2) := by decide +kernel
theorem dX3_readProduct_46 : decode cX3_readProduct 46 = .ok (.invokevirtual 38, 3) := by decide +kernel
theorem dX3_readProduct_49 : decode cX3_readProduct 49 = .ok (.ifCond .eq 8, 3) := by decide +kernel
theorem dX3_readProduct_52 : decode cX3_readProduct 52 = .ok (.bipush (-13), 2) := by decide +kernel
theorem dX3_readProduct_54 : decode cX3_readProduct 54 = .ok (.goto 4, 3) := by decide +kernel
theorem dX3_readProduct_57 : decode cX3_readProduct 57 = .ok (.iconst 0, 1) := by decide +kernel
theorem dX3_readProduct_58 : decode cX3_readProduct 58 = .ok (.istore 4, 2) := by decide +kernel
theorem dX3_readProduct_60 : decode cX3_readProduct 60 = .ok (.iload 4, 2) := by decide +kernel
theorem dX3_readProduct_62 : decode cX3_readProduct 62 = .ok (.ifCond .ne 6, 3) := by decide +kernel
theorem dX3_readProduct_65 : decode cX3_readProduct 65 = .ok (.goto 25, 3) := by decide +kernel
theorem dX3_readProduct_68 : decode cX3_readProduct 68 = .ok (.aload_n 1, 1) := by decide +kernel
theorem dX3_readProduct_69 : decode cX3_readProduct 69 = .ok (.invokevirtual 42, 3) := by decide +kernel
theorem dX3_readProduct_72 : decode cX3_readProduct 72 = .ok (.aload_n 0, 1) := by decide +kernel
theorem dX3_readProduct_73 : decode cX3_readProduct 73 = .ok (.aload_n 1, 1) := by decide +kernel
theorem dX3_readProduct_74 : decode cX3_readProduct 74 = .ok (.iload_n 2, 1) := by decide +kernel
theorem dX3_readProduct_75 : decode cX3_readProduct 75 = .ok (.invokevirtual 49, 3) := by decide +kernel
theorem dX3_readProduct_78 : decode cX3_readProduct 78 = .ok (.aload_n 0, 1) := by decide +kernel
theorem dX3_readProduct_79 : decode cX3_readProduct 79 = .ok (.iload 4, 2) := by decide +kernel
theorem dX3_readProduct_81 : decode cX3_readProduct 81 = .ok (.invokevirtual 45, 3) := by decide +kernel
theorem dX3_readProduct_84 : decode cX3_readProduct 84 = .ok (.iinc 3 1, 3) := by decide +kernel
theorem dX3_readProduct_87 : decode cX3_readProduct 87 = .ok (.goto (-79), 3) := by decide +kernel
theorem dX3_readProduct_90 : decode cX3_readProduct 90 = .ok (.return_, 1) := by decide +kernel
theorem dX3_readUnit_0 : decode cX3_readUnit 0 = .ok (.aload_n 1, 1) := by decide +kernel
theorem dX3_readUnit_1 : decode cX3_readUnit 1 = .ok (.getfield 52, 3) := by decide +kernel
theorem dX3_readUnit_4 : decode cX3_readUnit 4 = .ok (.iconst 1, 1) := by decide +kernel
theorem dX3_readUnit_5 : decode cX3_readUnit 5 = .ok (.if_icmp .ne 16, 3) := by decide +kernel
theorem dX3_readUnit_8 : decode cX3_readUnit 8 = .ok (.aload_n 0, 1) := by decide +kernel
theorem dX3_readUnit_9 : decode cX3_readUnit 9 = .ok (.aload_n 1, 1) := by decide +kernel
theorem dX3_readUnit_10 : decode cX3_readUnit 10 = .ok (.iconst 0, 1) := by decide +kernel
theorem dX3_readUnit_11 : decode cX3_readUnit 11 = .ok (.sipush 999, 3) := by decide +kernel
theorem dX3_readUnit_14 : decode cX3_readUnit 14 = .ok (.invokevirtual 55, 3) := by decide +kernel
theorem dX3_readUnit_17 : decode cX3_readUnit 17 = .ok (.invokevirtual 45, 3) := by decide +kernel
theorem dX3_readUnit_20 : decode cX3_readUnit 20 = .ok (.return_, 1) := by decide +kernel
theorem dX3_readUnit_21 : decode cX3_readUnit 21 = .ok (.aload_n 1, 1) := by decide +kernel
theorem dX3_readUnit_22 : decode cX3_readUnit 22 = .ok (.invokestatic 59, 3) := by decide +kernel
theorem dX3_readUnit_25 : decode cX3_readUnit 25 = .ok (.istore_n 3, 1) := by decide +kernel
theorem dX3_readUnit_26 : decode cX3_readUnit 26 = .ok (.iload_n 3, 1) := by decide +kernel
theorem dX3_readUnit_27 : decode cX3_readUnit 27 = .ok (.iconst (-1), 1) := by decide +kernel
theorem dX3_readUnit_28 : decode cX3_readUnit 28 = .ok (.if_icmp .eq 15, 3) := by decide +kernel
theorem dX3_readUnit_31 : decode cX3_readUnit 31 = .ok (.aload_n 0, 1) := by decide +kernel
theorem dX3_readUnit_32 : decode cX3_readUnit 32 = .ok (.iconst (-1), 1) := by decide +kernel
theorem dX3_readUnit_33 : decode cX3_readUnit 33 = .ok (.iload_n 3, 1) := by decide +kernel
theorem dX3_readUnit_34 : decode cX3_readUnit 34 = .ok (.isub, 1) := by decide +kernel
theorem dX3_readUnit_35 : decode cX3_readUnit 35 = .ok (.invokevirtual 45, 3) := by decide +kernel
theorem dX3_readUnit_38 : decode cX3_readUnit 38 = .ok (.aload_n 1, 1) := by decide +kernel
theorem dX3_readUnit_39 : decode cX3_readUnit 39 = .ok (.invokevirtual 42, 3) := by decide +kernel
theorem dX3_readUnit_42 : decode cX3_readUnit 42 = .ok (.return_, 1) := by decide +kernel
theorem dX3_readUnit_43 : decode cX3_readUnit 43 = .ok (.aload_n 1, 1) := by decide +kernel
theorem dX3_readUnit_44 : decode cX3_readUnit 44 = .ok (.ldc 63, 2) := by decide +kernel
theorem dX3_readUnit_46 : decode cX3_readUnit 46 = .ok (.invokevirtual 65, 3) := by decide +kernel
theorem dX3_readUnit_49 : decode cX3_readUnit 49 = .ok (.ifCond .eq 8, 3) := by decide +kernel
theorem dX3_readUnit_52 : decode cX3_readUnit 52 = .ok (.bipush (-14), 2) := by decide +kernel
theorem dX3_readUnit_54 : decode cX3_readUnit 54 = .ok (.goto 18, 3) := by decide +kernel
theorem dX3_readUnit_57 : decode cX3_readUnit 57 = .ok (.aload_n 1, 1) := by decide +kernel
theorem dX3_readUnit_58 : decode cX3_readUnit 58 = .ok (.ldc 69, 2) := by decide +kernel
theorem dX3_readUnit_60 : decode cX3_readUnit 60 = .ok (.invokevirtual 65, 3) := by decide +kernel
theorem dX3_readUnit_63 : decode cX3_readUnit 63 = .ok (.ifCond .eq 8, 3) := by decide +kernel
theorem dX3_readUnit_66 : decode cX3_readUnit 66 = .ok (.bipush (-15), 2) := by decide +kernel
theorem dX3_readUnit_68 : decode cX3_readUnit 68 = .ok (.goto 4, 3) := by decide +kernel
theorem dX3_readUnit_71 : decode cX3_readUnit 71 = .ok (.iconst 0, 1) := by decide +kernel
theorem dX3_readUnit_72 : decode cX3_readUnit 72 = .ok (.istore 4, 2) := by decide +kernel
theorem dX3_readUnit_74 : decode cX3_readUnit 74 = .ok (.iload 4, 2) := by decide +kernel
theorem dX3_readUnit_76 : decode cX3_readUnit 76 = .ok (.ifCond .ne 20, 3) := by decide +kernel
theorem dX3_readUnit_79 : decode cX3_readUnit 79 = .ok (.aload_n 1, 1) := by decide +kernel
theorem dX3_readUnit_80 : decode cX3_readUnit 80 = .ok (.bipush 40, 2) := by decide +kernel
theorem dX3_readUnit_82 : decode cX3_readUnit 82 = .ok (.invokevirtual 38, 3) := by decide +kernel
theorem dX3_readUnit_85 : decode cX3_readUnit 85 = .ok (.ifCond .ne 11, 3) := by decide +kernel
theorem dX3_readUnit_88 : decode cX3_readUnit 88 = .ok (.aload_n 1, 1) := by decide +kernel
theorem dX3_readUnit_89 : decode cX3_readUnit 89 = .ok (.iconst 1, 1) := by decide +kernel
theorem dX3_readUnit_90 : decode cX3_readUnit 90 = .ok (.invokevirtual 71, 3) := by decide +kernel
theorem dX3_readUnit_93 : decode cX3_readUnit 93 = .ok (.goto 87, 3) := by decide +kernel
theorem dX3_readUnit_96 : decode cX3_readUnit 96 = .ok (.iload_n 2, 1) := by decide +kernel
theorem dX3_readUnit_97 : decode cX3_readUnit 97 = .ok (.bipush 6, 2) := by decide +kernel
theorem dX3_readUnit_99 : decode cX3_readUnit 99 = .ok (.if_icmp .lt 11, 3) := by decide +kernel
theorem dX3_readUnit_102 : decode cX3_readUnit 102 = .ok (.aload_n 1, 1) := by decide +kernel
theorem dX3_readUnit_103 : decode cX3_readUnit 103 = .ok (.iconst 3, 1) := by decide +kernel
theorem dX3_readUnit_104 : decode cX3_readUnit 104 = .ok (.invokevirtual 71, 3) := by decide +kernel
theorem dX3_readUnit_107 : decode cX3_readUnit 107 = .ok (.goto 73, 3) := by decide +kernel
theorem dX3_readUnit_110 : decode cX3_readUnit 110 = .ok (.iload 4, 2) := by decide +kernel
theorem dX3_readUnit_112 : decode cX3_readUnit 112 = .ok (.ifCond .ne 24, 3) := by decide +kernel
theorem dX3_readUnit_115 : decode cX3_readUnit 115 = .ok (.aload_n 1, 1) := by decide +kernel
theorem dX3_readUnit_116 : decode cX3_readUnit 116 = .ok (.invokevirtual 42, 3) := by decide +kernel
theorem dX3_readUnit_119 : decode cX3_readUnit 119 = .ok (.aload_n 0, 1) := by decide +kernel
theorem dX3_readUnit_120 : decode cX3_readUnit 120 = .ok (.aload_n 1, 1) := by decide +kernel
theorem dX3_readUnit_121 : decode cX3_readUnit 121 = .ok (.iload_n 2, 1) := by decide +kernel
theorem dX3_readUnit_122 : decode cX3_readUnit 122 = .ok (.iconst 1, 1) := by decide +kernel
theorem dX3_readUnit_123 : decode cX3_readUnit 123 = .ok (.iadd, 1) := by decide +kernel
theorem dX3_readUnit_124 : decode cX3_readUnit 124 = .ok (.invokevirtual 25, 3) := by decide +kernel
theorem dX3_readUnit_127 : decode cX3_readUnit 127 = .ok (.aload_n 1, 1) := by decide +kernel
theorem dX3_readUnit_128 : decode cX3_readUnit 128 = .ok (.bipush 41, 2) := by decide +kernel
theorem dX3_readUnit_130 : decode cX3_readUnit 130 = .ok (.invokevirtual 74, 3) := by decide +kernel
theorem dX3_readUnit_133 : decode cX3_readUnit 133 = .ok (.goto 47, 3) := by decide +kernel
theorem dX3_readUnit_136 : decode cX3_readUnit 136 = .ok (.aload_n 1, 1) := by decide +kernel
theorem dX3_readUnit_137 : decode cX3_readUnit 137 = .ok (.invokevirtual 42, 3) := by decide +kernel
theorem dX3_readUnit_140 : decode cX3_readUnit 140 = .ok (.aload_n 1, 1) := by decide +kernel
theorem dX3_readUnit_141 : decode cX3_readUnit 141 = .ok (.bipush 91, 2) := by decide +kernel
theorem dX3_readUnit_143 : decode cX3_readUnit 143 = .ok (.invokevirtual 74, 3) := by decide +kernel
theorem dX3_readUnit_146 : decode cX3_readUnit 146 = .ok (.aload_n 0, 1) := by decide +kernel
theorem dX3_readUnit_147 : decode cX3_readUnit 147 = .ok (.aload_n 1, 1) := by decide +kernel
theorem dX3_readUnit_148 : decode cX3_readUnit 148 = .ok (.iload_n 2, 1) := by decide +kernel
theorem dX3_readUnit_149 : decode cX3_readUnit 149 = .ok (.iconst 1, 1) := by decide +kernel
theorem dX3_readUnit_150 : decode cX3_readUnit 150 = .ok (.iadd, 1) := by decide +kernel
theorem dX3_readUnit_151 : decode cX3_readUnit 151 = .ok (.invokevirtual 25, 3) := by decide +kernel
theorem dX3_readUnit_154 : decode cX3_readUnit 154 = .ok (.aload_n 1, 1) := by decide +kernel
theorem dX3_readUnit_155 : decode cX3_readUnit 155 = .ok (.bipush 44, 2) := by decide +kernel
theorem dX3_readUnit_157 : decode cX3_readUnit 157 = .ok (.invokevirtual 74, 3) := by decide +kernel
theorem dX3_readUnit_160 : decode cX3_readUnit 160 = .ok (.aload_n 0, 1) := by decide +kernel
theorem dX3_readUnit_161 : decode cX3_readUnit 161 = .ok (.aload_n 1, 1) := by decide +kernel
theorem dX3_readUnit_162 : decode cX3_readUnit 162 = .ok (.iload_n 2, 1) := by decide +kernel
theorem dX3_readUnit_163 : decode cX3_readUnit 163 = .ok (.iconst 1, 1) := by decide +kernel
theorem dX3_readUnit_164 : decode cX3_readUnit 164 = .ok (.iadd, 1) := by decide +kernel
theorem dX3_readUnit_165 : decode cX3_readUnit 165 = .ok (.invokevirtual 25, 3) := by decide +kernel
theorem dX3_readUnit_168 : decode cX3_readUnit 168 = .ok (.aload_n 1, 1) := by decide +kernel
theorem dX3_readUnit_169 : decode cX3_readUnit 169 = .ok (.bipush 93, 2) := by decide +kernel
theorem dX3_readUnit_171 : decode cX3_readUnit 171 = .ok (.invokevirtual 74, 3) := by decide +kernel
theorem dX3_readUnit_174 : decode cX3_readUnit 174 = .ok (.aload_n 0, 1) := by decide +kernel
theorem dX3_readUnit_175 : decode cX3_readUnit 175 = .ok (.iload 4, 2) := by decide +kernel
theorem dX3_readUnit_177 : decode cX3_readUnit 177 = .ok (.invokevirtual 45, 3) := by decide +kernel
theorem dX3_readUnit_180 : decode cX3_readUnit 180 = .ok (.return_, 1) := by decide +kernel
theorem dX3_nameOf_0 : decode cX3_nameOf 0 = .ok (.aload_n 0, 1) := by decide +kernel
theorem dX3_nameOf_1 : decode cX3_nameOf 1 = .ok (.ldc 78, 2) := by decide +kernel
theorem dX3_nameOf_3 : decode cX3_nameOf 3 = .ok (.invokevirtual 65, 3) := by decide +kernel
theorem dX3_nameOf_6 : decode cX3_nameOf 6 = .ok (.ifCond .eq 5, 3) := by decide +kernel
theorem dX3_nameOf_9 : decode cX3_nameOf 9 = .ok (.iconst 0, 1) := by decide +kernel
theorem dX3_nameOf_10 : decode cX3_nameOf 10 = .ok (.ireturn, 1) := by decide +kernel
theorem dX3_nameOf_11 : decode cX3_nameOf 11 = .ok (.aload_n 0, 1) := by decide +kernel
theorem dX3_nameOf_12 : decode cX3_nameOf 12 = .ok (.ldc 80, 2) := by decide +kernel
theorem dX3_nameOf_14 : decode cX3_nameOf 14 = .ok (.invokevirtual 65, 3) := by decide +kernel
theorem dX3_nameOf_17 : decode cX3_nameOf 17 = .ok (.ifCond .eq 5, 3) := by decide +kernel
theorem dX3_nameOf_20 : decode cX3_nameOf 20 = .ok (.iconst 1, 1) := by decide +kernel
theorem dX3_nameOf_21 : decode cX3_nameOf 21 = .ok (.ireturn, 1) := by decide +kernel
theorem dX3_nameOf_22 : decode cX3_nameOf 22 = .ok (.aload_n 0, 1) := by decide +kernel
theorem dX3_nameOf_23 : decode cX3_nameOf 23 = .ok (.ldc 82, 2) := by decide +kernel
theorem dX3_nameOf_25 : decode cX3_nameOf 25 = .ok (.invokevirtual 65, 3) := by decide +kernel
theorem dX3_nameOf_28 : decode cX3_nameOf 28 = .ok (.ifCond .eq 5, 3) := by decide +kernel
theorem dX3_nameOf_31 : decode cX3_nameOf 31 = .ok (.iconst 2, 1) := by decide +kernel
theorem dX3_nameOf_32 : decode cX3_nameOf 32 = .ok (.ireturn, 1) := by decide +kernel
theorem dX3_nameOf_33 : decode cX3_nameOf 33 = .ok (.aload_n 0, 1) := by decide +kernel
theorem dX3_nameOf_34 : decode cX3_nameOf 34 = .ok (.ldc 84, 2) := by decide +kernel
theorem dX3_nameOf_36 : decode cX3_nameOf 36 = .ok (.invokevirtual 65, 3) := by decide +kernel
theorem dX3_nameOf_39 : decode cX3_nameOf 39 = .ok (.ifCond .eq 5, 3) := by decide +kernel
theorem dX3_nameOf_42 : decode cX3_nameOf 42 = .ok (.iconst 3, 1) := by decide +kernel
theorem dX3_nameOf_43 : decode cX3_nameOf 43 = .ok (.ireturn, 1) := by decide +kernel
theorem dX3_nameOf_44 : decode cX3_nameOf 44 = .ok (.aload_n 0, 1) := by decide +kernel
theorem dX3_nameOf_45 : decode cX3_nameOf 45 = .ok (.ldc 86, 2) := by decide +kernel
theorem dX3_nameOf_47 : decode cX3_nameOf 47 = .ok (.invokevirtual 65, 3) := by decide +kernel
theorem dX3_nameOf_50 : decode cX3_nameOf 50 = .ok (.ifCond .eq 5, 3) := by decide +kernel
theorem dX3_nameOf_53 : decode cX3_nameOf 53 = .ok (.iconst 4, 1) := by decide +kernel
theorem dX3_nameOf_54 : decode cX3_nameOf 54 = .ok (.ireturn, 1) := by decide +kernel
theorem dX3_nameOf_55 : decode cX3_nameOf 55 = .ok (.aload_n 0, 1) := by decide +kernel
theorem dX3_nameOf_56 : decode cX3_nameOf 56 = .ok (.ldc 88, 2) := by decide +kernel
theorem dX3_nameOf_58 : decode cX3_nameOf 58 = .ok (.invokevirtual 65, 3) := by decide +kernel
theorem dX3_nameOf_61 : decode cX3_nameOf 61 = .ok (.ifCond .eq 5, 3) := by decide +kernel
theorem dX3_nameOf_64 : decode cX3_nameOf 64 = .ok (.iconst 5, 1) := by decide +kernel
theorem dX3_nameOf_65 : decode cX3_nameOf 65 = .ok (.ireturn, 1) := by decide +kernel
theorem dX3_nameOf_66 : decode cX3_nameOf 66 = .ok (.aload_n 0, 1) := by decide +kernel
theorem dX3_nameOf_67 : decode cX3_nameOf 67 = .ok (.ldc 90, 2) := by decide +kernel
theorem dX3_nameOf_69 : decode cX3_nameOf 69 = .ok (.invokevirtual 65, 3) := by decide +kernel
theorem dX3_nameOf_72 : decode cX3_nameOf 72 = .ok (.ifCond .eq 6, 3) := by decide +kernel
theorem dX3_nameOf_75 : decode cX3_nameOf 75 = .ok (.bipush 6, 2) := by decide +kernel
theorem dX3_nameOf_77 : decode cX3_nameOf 77 = .ok (.ireturn, 1) := by decide +kernel
theorem dX3_nameOf_78 : decode cX3_nameOf 78 = .ok (.aload_n 0, 1) := by decide +kernel
theorem dX3_nameOf_79 : decode cX3_nameOf 79 = .ok (.ldc 92, 2) := by decide +kernel
theorem dX3_nameOf_81 : decode cX3_nameOf 81 = .ok (.invokevirtual 65, 3) := by decide +kernel
theorem dX3_nameOf_84 : decode cX3_nameOf 84 = .ok (.ifCond .eq 8, 3) := by decide +kernel
theorem dX3_nameOf_87 : decode cX3_nameOf 87 = .ok (.bipush 7, 2) := by decide +kernel
theorem dX3_nameOf_89 : decode cX3_nameOf 89 = .ok (.goto 4, 3) := by decide +kernel
theorem dX3_nameOf_92 : decode cX3_nameOf 92 = .ok (.iconst (-1), 1) := by decide +kernel
theorem dX3_nameOf_93 : decode cX3_nameOf 93 = .ok (.ireturn, 1) := by decide +kernel
theorem dX3_valueFor_0 : decode cX3_valueFor 0 = .ok (.iconst 0, 1) := by decide +kernel
theorem dX3_valueFor_1 : decode cX3_valueFor 1 = .ok (.istore_n 2, 1) := by decide +kernel
theorem dX3_valueFor_2 : decode cX3_valueFor 2 = .ok (.iconst 0, 1) := by decide +kernel
theorem dX3_valueFor_3 : decode cX3_valueFor 3 = .ok (.istore_n 3, 1) := by decide +kernel
theorem dX3_valueFor_4 : decode cX3_valueFor 4 = .ok (.iload_n 3, 1) := by decide +kernel
theorem dX3_valueFor_5 : decode cX3_valueFor 5 = .ok (.aload_n 0, 1) := by decide +kernel
theorem dX3_valueFor_6 : decode cX3_valueFor 6 = .ok (.getfield 21, 3) := by decide +kernel
theorem dX3_valueFor_9 : decode cX3_valueFor 9 = .ok (.if_icmp .ge 230, 3) := by decide +kernel
theorem dX3_valueFor_12 : decode cX3_valueFor 12 = .ok (.aload_n 0, 1) := by decide +kernel
theorem dX3_valueFor_13 : decode cX3_valueFor 13 = .ok (.getfield 9, 3) := by decide +kernel
theorem dX3_valueFor_16 : decode cX3_valueFor 16 = .ok (.iload_n 3, 1) := by decide +kernel
theorem dX3_valueFor_17 : decode cX3_valueFor 17 = .ok (.iaload, 1) := by decide +kernel
theorem dX3_valueFor_18 : decode cX3_valueFor 18 = .ok (.istore 4, 2) := by decide +kernel
theorem dX3_valueFor_20 : decode cX3_valueFor 20 = .ok (.iload 4, 2) := by decide +kernel
theorem dX3_valueFor_22 : decode cX3_valueFor 22 = .ok (.bipush (-8), 2) := by decide +kernel
theorem dX3_valueFor_24 : decode cX3_valueFor 24 = .ok (.if_icmp .lt 31, 3) := by decide +kernel
theorem dX3_valueFor_27 : decode cX3_valueFor 27 = .ok (.aload_n 0, 1) := by decide +kernel
theorem dX3_valueFor_28 : decode cX3_valueFor 28 = .ok (.getfield 15, 3) := by decide +kernel
theorem dX3_valueFor_31 : decode cX3_valueFor 31 = .ok (.iload_n 2, 1) := by decide +kernel
theorem dX3_valueFor_32 : decode cX3_valueFor 32 = .ok (.iload 4, 2) := by decide +kernel
theorem dX3_valueFor_34 : decode cX3_valueFor 34 = .ok (.ifCond .lt 8, 3) := by decide +kernel
theorem dX3_valueFor_37 : decode cX3_valueFor 37 = .ok (.iload 4, 2) := by decide +kernel
theorem dX3_valueFor_39 : decode cX3_valueFor 39 = .ok (.goto 9, 3) := by decide +kernel
theorem dX3_valueFor_42 : decode cX3_valueFor 42 = .ok (.aload_n 1, 1) := by decide +kernel
theorem dX3_valueFor_43 : decode cX3_valueFor 43 = .ok (.iconst (-1), 1) := by decide +kernel
theorem dX3_valueFor_44 : decode cX3_valueFor 44 = .ok (.iload 4, 2) := by decide +kernel
theorem dX3_valueFor_46 : decode cX3_valueFor 46 = .ok (.isub, 1) := by decide +kernel
theorem dX3_valueFor_47 : decode cX3_valueFor 47 = .ok (.iaload, 1) := by decide +kernel
theorem dX3_valueFor_48 : decode cX3_valueFor 48 = .ok (.iastore, 1) := by decide +kernel
theorem dX3_valueFor_49 : decode cX3_valueFor 49 = .ok (.iinc 2 1, 3) := by decide +kernel
theorem dX3_valueFor_52 : decode cX3_valueFor 52 = .ok (.goto 181, 3) := by decide +kernel
theorem dX3_valueFor_55 : decode cX3_valueFor 55 = .ok (.iload_n 2, 1) := by decide +kernel
theorem dX3_valueFor_56 : decode cX3_valueFor 56 = .ok (.iconst 2, 1) := by decide +kernel
theorem dX3_valueFor_57 : decode cX3_valueFor 57 = .ok (.if_icmp .lt 176, 3) := by decide +kernel
theorem dX3_valueFor_60 : decode cX3_valueFor 60 = .ok (.iinc 2 (-1), 3) := by decide +kernel
theorem dX3_valueFor_63 : decode cX3_valueFor 63 = .ok (.aload_n 0, 1) := by decide +kernel
theorem dX3_valueFor_64 : decode cX3_valueFor 64 = .ok (.getfield 15, 3) := by decide +kernel
theorem dX3_valueFor_67 : decode cX3_valueFor 67 = .ok (.iload_n 2, 1) := by decide +kernel
theorem dX3_valueFor_68 : decode cX3_valueFor 68 = .ok (.iconst 1, 1) := by decide +kernel
theorem dX3_valueFor_69 : decode cX3_valueFor 69 = .ok (.isub, 1) := by decide +kernel
theorem dX3_valueFor_70 : decode cX3_valueFor 70 = .ok (.iaload, 1) := by decide +kernel
theorem dX3_valueFor_71 : decode cX3_valueFor 71 = .ok (.istore 5, 2) := by decide +kernel
theorem dX3_valueFor_73 : decode cX3_valueFor 73 = .ok (.aload_n 0, 1) := by decide +kernel
theorem dX3_valueFor_74 : decode cX3_valueFor 74 = .ok (.getfield 15, 3) := by decide +kernel
theorem dX3_valueFor_77 : decode cX3_valueFor 77 = .ok (.iload_n 2, 1) := by decide +kernel
theorem dX3_valueFor_78 : decode cX3_valueFor 78 = .ok (.iaload, 1) := by decide +kernel
theorem dX3_valueFor_79 : decode cX3_valueFor 79 = .ok (.istore 6, 2) := by decide +kernel
theorem dX3_valueFor_81 : decode cX3_valueFor 81 = .ok (.iload 4, 2) := by decide +kernel
theorem dX3_valueFor_83 : decode cX3_valueFor 83 = .ok (.tableswitch 124 (-14) (-9) #[105, 86, 67, 57, 47, 37], 37) := by decide +kernel
theorem dX3_valueFor_120 : decode cX3_valueFor 120 = .ok (.iload 5, 2) := by decide +kernel
theorem dX3_valueFor_122 : decode cX3_valueFor 122 = .ok (.iload 6, 2) := by decide +kernel
theorem dX3_valueFor_124 : decode cX3_valueFor 124 = .ok (.iadd, 1) := by decide +kernel
theorem dX3_valueFor_125 : decode cX3_valueFor 125 = .ok (.istore 7, 2) := by decide +kernel
theorem dX3_valueFor_127 : decode cX3_valueFor 127 = .ok (.goto 96, 3) := by decide +kernel
theorem dX3_valueFor_130 : decode cX3_valueFor 130 = .ok (.iload 5, 2) := by decide +kernel
theorem dX3_valueFor_132 : decode cX3_valueFor 132 = .ok (.iload 6, 2) := by decide +kernel
theorem dX3_valueFor_134 : decode cX3_valueFor 134 = .ok (.isub, 1) := by decide +kernel
theorem dX3_valueFor_135 : decode cX3_valueFor 135 = .ok (.istore 7, 2) := by decide +kernel
theorem dX3_valueFor_137 : decode cX3_valueFor 137 = .ok (.goto 86, 3) := by decide +kernel
theorem dX3_valueFor_140 : decode cX3_valueFor 140 = .ok (.iload 5, 2) := by decide +kernel
theorem dX3_valueFor_142 : decode cX3_valueFor 142 = .ok (.iload 6, 2) := by decide +kernel
theorem dX3_valueFor_144 : decode cX3_valueFor 144 = .ok (.imul, 1) := by decide +kernel
theorem dX3_valueFor_145 : decode cX3_valueFor 145 = .ok (.istore 7, 2) := by decide +kernel
theorem dX3_valueFor_147 : decode cX3_valueFor 147 = .ok (.goto 76, 3) := by decide +kernel
theorem dX3_valueFor_150 : decode cX3_valueFor 150 = .ok (.iload 6, 2) := by decide +kernel
theorem dX3_valueFor_152 : decode cX3_valueFor 152 = .ok (.ifCond .ne 7, 3) := by decide +kernel
theorem dX3_valueFor_155 : decode cX3_valueFor 155 = .ok (.iconst 0, 1) := by decide +kernel
theorem dX3_valueFor_156 : decode cX3_valueFor 156 = .ok (.goto 8, 3) := by decide +kernel
theorem dX3_valueFor_159 : decode cX3_valueFor 159 = .ok (.iload 5, 2) := by decide +kernel
theorem dX3_valueFor_161 : decode cX3_valueFor 161 = .ok (.iload 6, 2) := by decide +kernel
theorem dX3_valueFor_163 : decode cX3_valueFor 163 = .ok (.idiv, 1) := by decide +kernel
theorem dX3_valueFor_164 : decode cX3_valueFor 164 = .ok (.istore 7, 2) := by decide +kernel
theorem dX3_valueFor_166 : decode cX3_valueFor 166 = .ok (.goto 57, 3) := by decide +kernel
theorem dX3_valueFor_169 : decode cX3_valueFor 169 = .ok (.iload 6, 2) := by decide +kernel
theorem dX3_valueFor_171 : decode cX3_valueFor 171 = .ok (.ifCond .ne 7, 3) := by decide +kernel
theorem dX3_valueFor_174 : decode cX3_valueFor 174 = .ok (.iconst 0, 1) := by decide +kernel
theorem dX3_valueFor_175 : decode cX3_valueFor 175 = .ok (.goto 8, 3) := by decide +kernel
theorem dX3_valueFor_178 : decode cX3_valueFor 178 = .ok (.iload 5, 2) := by decide +kernel
theorem dX3_valueFor_180 : decode cX3_valueFor 180 = .ok (.iload 6, 2) := by decide +kernel
theorem dX3_valueFor_182 : decode cX3_valueFor 182 = .ok (.irem, 1) := by decide +kernel
theorem dX3_valueFor_183 : decode cX3_valueFor 183 = .ok (.istore 7, 2) := by decide +kernel
theorem dX3_valueFor_185 : decode cX3_valueFor 185 = .ok (.goto 38, 3) := by decide +kernel
theorem dX3_valueFor_188 : decode cX3_valueFor 188 = .ok (.iload 5, 2) := by decide +kernel
theorem dX3_valueFor_190 : decode cX3_valueFor 190 = .ok (.iload 6, 2) := by decide +kernel
theorem dX3_valueFor_192 : decode cX3_valueFor 192 = .ok (.if_icmp .ge 8, 3) := by decide +kernel
theorem dX3_valueFor_195 : decode cX3_valueFor 195 = .ok (.iload 5, 2) := by decide +kernel
theorem dX3_valueFor_197 : decode cX3_valueFor 197 = .ok (.goto 5, 3) := by decide +kernel
theorem dX3_valueFor_200 : decode cX3_valueFor 200 = .ok (.iload 6, 2) := by decide +kernel
theorem dX3_valueFor_202 : decode cX3_valueFor 202 = .ok (.istore 7, 2) := by decide +kernel
theorem dX3_valueFor_204 : decode cX3_valueFor 204 = .ok (.goto 19, 3) := by decide +kernel
theorem dX3_valueFor_207 : decode cX3_valueFor 207 = .ok (.iload 5, 2) := by decide +kernel
theorem dX3_valueFor_209 : decode cX3_valueFor 209 = .ok (.iload 6, 2) := by decide +kernel
theorem dX3_valueFor_211 : decode cX3_valueFor 211 = .ok (.if_icmp .le 8, 3) := by decide +kernel
theorem dX3_valueFor_214 : decode cX3_valueFor 214 = .ok (.iload 5, 2) := by decide +kernel
theorem dX3_valueFor_216 : decode cX3_valueFor 216 = .ok (.goto 5, 3) := by decide +kernel
theorem dX3_valueFor_219 : decode cX3_valueFor 219 = .ok (.iload 6, 2) := by decide +kernel
theorem dX3_valueFor_221 : decode cX3_valueFor 221 = .ok (.istore 7, 2) := by decide +kernel
theorem dX3_valueFor_223 : decode cX3_valueFor 223 = .ok (.aload_n 0, 1) := by decide +kernel
theorem dX3_valueFor_224 : decode cX3_valueFor 224 = .ok (.getfield 15, 3) := by decide +kernel
theorem dX3_valueFor_227 : decode cX3_valueFor 227 = .ok (.iload_n 2, 1) := by decide +kernel
theorem dX3_valueFor_228 : decode cX3_valueFor 228 = .ok (.iconst 1, 1) := by decide +kernel
theorem dX3_valueFor_229 : decode cX3_valueFor 229 = .ok (.isub, 1) := by decide +kernel
theorem dX3_valueFor_230 : decode cX3_valueFor 230 = .ok (.iload 7, 2) := by decide +kernel
theorem dX3_valueFor_232 : decode cX3_valueFor 232 = .ok (.iastore, 1) := by decide +kernel
theorem dX3_valueFor_233 : decode cX3_valueFor 233 = .ok (.iinc 3 1, 3) := by decide +kernel
theorem dX3_valueFor_236 : decode cX3_valueFor 236 = .ok (.goto (-232), 3) := by decide +kernel
theorem dX3_valueFor_239 : decode cX3_valueFor 239 = .ok (.iload_n 2, 1) := by decide +kernel
theorem dX3_valueFor_240 : decode cX3_valueFor 240 = .ok (.ifCond .le 14, 3) := by decide +kernel
theorem dX3_valueFor_243 : decode cX3_valueFor 243 = .ok (.aload_n 0, 1) := by decide +kernel
theorem dX3_valueFor_244 : decode cX3_valueFor 244 = .ok (.getfield 15, 3) := by decide +kernel
theorem dX3_valueFor_247 : decode cX3_valueFor 247 = .ok (.iload_n 2, 1) := by decide +kernel
theorem dX3_valueFor_248 : decode cX3_valueFor 248 = .ok (.iconst 1, 1) := by decide +kernel
theorem dX3_valueFor_249 : decode cX3_valueFor 249 = .ok (.isub, 1) := by decide +kernel
theorem dX3_valueFor_250 : decode cX3_valueFor 250 = .ok (.iaload, 1) := by decide +kernel
theorem dX3_valueFor_251 : decode cX3_valueFor 251 = .ok (.goto 4, 3) := by decide +kernel
theorem dX3_valueFor_254 : decode cX3_valueFor 254 = .ok (.iconst 0, 1) := by decide +kernel
theorem dX3_valueFor_255 : decode cX3_valueFor 255 = .ok (.ireturn, 1) := by decide +kernel
theorem dX4_init_0 : decode cX4_init 0 = .ok (.aload_n 0, 1) := by decide +kernel
theorem dX4_init_1 : decode cX4_init 1 = .ok (.invokespecial 3, 3) := by decide +kernel
theorem dX4_init_4 : decode cX4_init 4 = .ok (.aload_n 0, 1) := by decide +kernel
theorem dX4_init_5 : decode cX4_init 5 = .ok (.new 9, 3) := by decide +kernel
theorem dX4_init_8 : decode cX4_init 8 = .ok (.dup, 1) := by decide +kernel
theorem dX4_init_9 : decode cX4_init 9 = .ok (.invokespecial 11, 3) := by decide +kernel
theorem dX4_init_12 : decode cX4_init 12 = .ok (.putfield 12, 3) := by decide +kernel
theorem dX4_init_15 : decode cX4_init 15 = .ok (.aload_n 0, 1) := by decide +kernel
theorem dX4_init_16 : decode cX4_init 16 = .ok (.bipush 8, 2) := by decide +kernel
theorem dX4_init_18 : decode cX4_init 18 = .ok (.anewarray 9, 3) := by decide +kernel
theorem dX4_init_21 : decode cX4_init 21 = .ok (.putfield 18, 3) := by decide +kernel
theorem dX4_init_24 : decode cX4_init 24 = .ok (.return_, 1) := by decide +kernel
theorem dX4_forget_0 : decode cX4_forget 0 = .ok (.aload_n 0, 1) := by decide +kernel
theorem dX4_forget_1 : decode cX4_forget 1 = .ok (.getfield 12, 3) := by decide +kernel
theorem dX4_forget_4 : decode cX4_forget 4 = .ok (.invokevirtual 22, 3) := by decide +kernel
theorem dX4_forget_7 : decode cX4_forget 7 = .ok (.aload_n 0, 1) := by decide +kernel
theorem dX4_forget_8 : decode cX4_forget 8 = .ok (.iconst 0, 1) := by decide +kernel
theorem dX4_forget_9 : decode cX4_forget 9 = .ok (.putfield 25, 3) := by decide +kernel
theorem dX4_forget_12 : decode cX4_forget 12 = .ok (.return_, 1) := by decide +kernel
theorem dX4_keep_0 : decode cX4_keep 0 = .ok (.aload_n 0, 1) := by decide +kernel
theorem dX4_keep_1 : decode cX4_keep 1 = .ok (.getfield 25, 3) := by decide +kernel
theorem dX4_keep_4 : decode cX4_keep 4 = .ok (.bipush 8, 2) := by decide +kernel
theorem dX4_keep_6 : decode cX4_keep 6 = .ok (.if_icmp .ge 28, 3) := by decide +kernel
theorem dX4_keep_9 : decode cX4_keep 9 = .ok (.aload_n 0, 1) := by decide +kernel
theorem dX4_keep_10 : decode cX4_keep 10 = .ok (.aload_n 0, 1) := by decide +kernel
theorem dX4_keep_11 : decode cX4_keep 11 = .ok (.getfield 25, 3) := by decide +kernel
theorem dX4_keep_14 : decode cX4_keep 14 = .ok (.invokevirtual 29, 3) := by decide +kernel
theorem dX4_keep_17 : decode cX4_keep 17 = .ok (.aload_n 0, 1) := by decide +kernel
theorem dX4_keep_18 : decode cX4_keep 18 = .ok (.getfield 12, 3) := by decide +kernel
theorem dX4_keep_21 : decode cX4_keep 21 = .ok (.invokevirtual 33, 3) := by decide +kernel
theorem dX4_keep_24 : decode cX4_keep 24 = .ok (.aload_n 0, 1) := by decide +kernel
theorem dX4_keep_25 : decode cX4_keep 25 = .ok (.dup, 1) := by decide +kernel
theorem dX4_keep_26 : decode cX4_keep 26 = .ok (.getfield 25, 3) := by decide +kernel
theorem dX4_keep_29 : decode cX4_keep 29 = .ok (.iconst 1, 1) := by decide +kernel
theorem dX4_keep_30 : decode cX4_keep 30 = .ok (.iadd, 1) := by decide +kernel
theorem dX4_keep_31 : decode cX4_keep 31 = .ok (.putfield 25, 3) := by decide +kernel
theorem dX4_keep_34 : decode cX4_keep 34 = .ok (.return_, 1) := by decide +kernel
theorem dX4_goBack_0 : decode cX4_goBack 0 = .ok (.aload_n 0, 1) := by decide +kernel
theorem dX4_goBack_1 : decode cX4_goBack 1 = .ok (.getfield 25, 3) := by decide +kernel
theorem dX4_goBack_4 : decode cX4_goBack 4 = .ok (.ifCond .le 28, 3) := by decide +kernel
theorem dX4_goBack_7 : decode cX4_goBack 7 = .ok (.aload_n 0, 1) := by decide +kernel
theorem dX4_goBack_8 : decode cX4_goBack 8 = .ok (.dup, 1) := by decide +kernel
theorem dX4_goBack_9 : decode cX4_goBack 9 = .ok (.getfield 25, 3) := by decide +kernel
theorem dX4_goBack_12 : decode cX4_goBack 12 = .ok (.iconst 1, 1) := by decide +kernel
theorem dX4_goBack_13 : decode cX4_goBack 13 = .ok (.isub, 1) := by decide +kernel
theorem dX4_goBack_14 : decode cX4_goBack 14 = .ok (.putfield 25, 3) := by decide +kernel
theorem dX4_goBack_17 : decode cX4_goBack 17 = .ok (.aload_n 0, 1) := by decide +kernel
theorem dX4_goBack_18 : decode cX4_goBack 18 = .ok (.getfield 12, 3) := by decide +kernel
theorem dX4_goBack_21 : decode cX4_goBack 21 = .ok (.aload_n 0, 1) := by decide +kernel
theorem dX4_goBack_22 : decode cX4_goBack 22 = .ok (.aload_n 0, 1) := by decide +kernel
theorem dX4_goBack_23 : decode cX4_goBack 23 = .ok (.getfield 25, 3) := by decide +kernel
theorem dX4_goBack_26 : decode cX4_goBack 26 = .ok (.invokevirtual 29, 3) := by decide +kernel
theorem dX4_goBack_29 : decode cX4_goBack 29 = .ok (.invokevirtual 33, 3) := by decide +kernel
theorem dX4_goBack_32 : decode cX4_goBack 32 = .ok (.return_, 1) := by decide +kernel
theorem dX4_copy_0 : decode cX4_copy 0 = .ok (.aload_n 0, 1) := by decide +kernel
theorem dX4_copy_1 : decode cX4_copy 1 = .ok (.getfield 12, 3) := by decide +kernel
theorem dX4_copy_4 : decode cX4_copy 4 = .ok (.aload_n 1, 1) := by decide +kernel
theorem dX4_copy_5 : decode cX4_copy 5 = .ok (.getfield 12, 3) := by decide +kernel
theorem dX4_copy_8 : decode cX4_copy 8 = .ok (.invokevirtual 33, 3) := by decide +kernel
theorem dX4_copy_11 : decode cX4_copy 11 = .ok (.aload_n 0, 1) := by decide +kernel
theorem dX4_copy_12 : decode cX4_copy 12 = .ok (.aload_n 1, 1) := by decide +kernel
theorem dX4_copy_13 : decode cX4_copy 13 = .ok (.getfield 25, 3) := by decide +kernel
theorem dX4_copy_16 : decode cX4_copy 16 = .ok (.putfield 25, 3) := by decide +kernel
theorem dX4_copy_19 : decode cX4_copy 19 = .ok (.iconst 0, 1) := by decide +kernel
theorem dX4_copy_20 : decode cX4_copy 20 = .ok (.istore_n 2, 1) := by decide +kernel
theorem dX4_copy_21 : decode cX4_copy 21 = .ok (.iload_n 2, 1) := by decide +kernel
theorem dX4_copy_22 : decode cX4_copy 22 = .ok (.aload_n 0, 1) := by decide +kernel
theorem dX4_copy_23 : decode cX4_copy 23 = .ok (.getfield 25, 3) := by decide +kernel
theorem dX4_copy_26 : decode cX4_copy 26 = .ok (.if_icmp .ge 22, 3) := by decide +kernel
theorem dX4_copy_29 : decode cX4_copy 29 = .ok (.aload_n 0, 1) := by decide +kernel
theorem dX4_copy_30 : decode cX4_copy 30 = .ok (.iload_n 2, 1) := by decide +kernel
theorem dX4_copy_31 : decode cX4_copy 31 = .ok (.invokevirtual 29, 3) := by decide +kernel
theorem dX4_copy_34 : decode cX4_copy 34 = .ok (.aload_n 1, 1) := by decide +kernel
theorem dX4_copy_35 : decode cX4_copy 35 = .ok (.iload_n 2, 1) := by decide +kernel
theorem dX4_copy_36 : decode cX4_copy 36 = .ok (.invokevirtual 29, 3) := by decide +kernel
theorem dX4_copy_39 : decode cX4_copy 39 = .ok (.invokevirtual 33, 3) := by decide +kernel
theorem dX4_copy_42 : decode cX4_copy 42 = .ok (.iinc 2 1, 3) := by decide +kernel
theorem dX4_copy_45 : decode cX4_copy 45 = .ok (.goto (-24), 3) := by decide +kernel
theorem dX4_copy_48 : decode cX4_copy 48 = .ok (.return_, 1) := by decide +kernel
theorem dX4_slot_0 : decode cX4_slot 0 = .ok (.aload_n 0, 1) := by decide +kernel
theorem dX4_slot_1 : decode cX4_slot 1 = .ok (.getfield 18, 3) := by decide +kernel
theorem dX4_slot_4 : decode cX4_slot 4 = .ok (.iload_n 1, 1) := by decide +kernel
theorem dX4_slot_5 : decode cX4_slot 5 = .ok (.aaload, 1) := by decide +kernel
theorem dX4_slot_6 : decode cX4_slot 6 = .ok (.astore_n 2, 1) := by decide +kernel
theorem dX4_slot_7 : decode cX4_slot 7 = .ok (.aload_n 2, 1) := by decide +kernel
theorem dX4_slot_8 : decode cX4_slot 8 = .ok (.ifnonnull 18, 3) := by decide +kernel
theorem dX4_slot_11 : decode cX4_slot 11 = .ok (.new 9, 3) := by decide +kernel
theorem dX4_slot_14 : decode cX4_slot 14 = .ok (.dup, 1) := by decide +kernel
theorem dX4_slot_15 : decode cX4_slot 15 = .ok (.invokespecial 11, 3) := by decide +kernel
theorem dX4_slot_18 : decode cX4_slot 18 = .ok (.astore_n 2, 1) := by decide +kernel
theorem dX4_slot_19 : decode cX4_slot 19 = .ok (.aload_n 0, 1) := by decide +kernel
theorem dX4_slot_20 : decode cX4_slot 20 = .ok (.getfield 18, 3) := by decide +kernel
theorem dX4_slot_23 : decode cX4_slot 23 = .ok (.iload_n 1, 1) := by decide +kernel
theorem dX4_slot_24 : decode cX4_slot 24 = .ok (.aload_n 2, 1) := by decide +kernel
theorem dX4_slot_25 : decode cX4_slot 25 = .ok (.aastore, 1) := by decide +kernel
theorem dX4_slot_26 : decode cX4_slot 26 = .ok (.aload_n 2, 1) := by decide +kernel
theorem dX4_slot_27 : decode cX4_slot 27 = .ok (.areturn, 1) := by decide +kernel
theorem dX5_init_0 : decode cX5_init 0 = .ok (.aload_n 0, 1) := by decide +kernel
theorem dX5_init_1 : decode cX5_init 1 = .ok (.invokespecial 3, 3) := by decide +kernel
theorem dX5_init_4 : decode cX5_init 4 = .ok (.aload_n 0, 1) := by decide +kernel
theorem dX5_init_5 : decode cX5_init 5 = .ok (.iconst 5, 1) := by decide +kernel
theorem dX5_init_6 : decode cX5_init 6 = .ok (.newarray .int, 2) := by decide +kernel
theorem dX5_init_8 : decode cX5_init 8 = .ok (.putfield 9, 3) := by decide +kernel
theorem dX5_init_11 : decode cX5_init 11 = .ok (.return_, 1) := by decide +kernel
theorem dX5_walkFreely_0 : decode cX5_walkFreely 0 = .ok (.aload_n 0, 1) := by decide +kernel
theorem dX5_walkFreely_1 : decode cX5_walkFreely 1 = .ok (.getfield 9, 3) := by decide +kernel
theorem dX5_walkFreely_4 : decode cX5_walkFreely 4 = .ok (.ldc 15, 2) := by decide +kernel
theorem dX5_walkFreely_6 : decode cX5_walkFreely 6 = .ok (.invokestatic 16, 3) := by decide +kernel
theorem dX5_walkFreely_9 : decode cX5_walkFreely 9 = .ok (.aload_n 0, 1) := by decide +kernel
theorem dX5_walkFreely_10 : decode cX5_walkFreely 10 = .ok (.aload_n 1, 1) := by decide +kernel
theorem dX5_walkFreely_11 : decode cX5_walkFreely 11 = .ok (.iload_n 2, 1) := by decide +kernel
theorem dX5_walkFreely_12 : decode cX5_walkFreely 12 = .ok (.invokevirtual 22, 3) := by decide +kernel
theorem dX5_walkFreely_15 : decode cX5_walkFreely 15 = .ok (.return_, 1) := by decide +kernel
theorem dX5_walkInTime_0 : decode cX5_walkInTime 0 = .ok (.aload_n 0, 1) := by decide +kernel
theorem dX5_walkInTime_1 : decode cX5_walkInTime 1 = .ok (.getfield 9, 3) := by decide +kernel
theorem dX5_walkInTime_4 : decode cX5_walkInTime 4 = .ok (.ldc 15, 2) := by decide +kernel
theorem dX5_walkInTime_6 : decode cX5_walkInTime 6 = .ok (.invokestatic 16, 3) := by decide +kernel
theorem dX5_walkInTime_9 : decode cX5_walkInTime 9 = .ok (.iconst 0, 1) := by decide +kernel
theorem dX5_walkInTime_10 : decode cX5_walkInTime 10 = .ok (.istore 5, 2) := by decide +kernel
theorem dX5_walkInTime_12 : decode cX5_walkInTime 12 = .ok (.iload 5, 2) := by decide +kernel
theorem dX5_walkInTime_14 : decode cX5_walkInTime 14 = .ok (.aload_n 1, 1) := by decide +kernel
theorem dX5_walkInTime_15 : decode cX5_walkInTime 15 = .ok (.getfield 26, 3) := by decide +kernel
theorem dX5_walkInTime_18 : decode cX5_walkInTime 18 = .ok (.if_icmp .ge 72, 3) := by decide +kernel
theorem dX5_walkInTime_21 : decode cX5_walkInTime 21 = .ok (.iload_n 2, 1) := by decide +kernel
theorem dX5_walkInTime_22 : decode cX5_walkInTime 22 = .ok (.iload 5, 2) := by decide +kernel
theorem dX5_walkInTime_24 : decode cX5_walkInTime 24 = .ok (.ishr, 1) := by decide +kernel
theorem dX5_walkInTime_25 : decode cX5_walkInTime 25 = .ok (.iconst 1, 1) := by decide +kernel
theorem dX5_walkInTime_26 : decode cX5_walkInTime 26 = .ok (.iand, 1) := by decide +kernel
theorem dX5_walkInTime_27 : decode cX5_walkInTime 27 = .ok (.iconst 1, 1) := by decide +kernel
theorem dX5_walkInTime_28 : decode cX5_walkInTime 28 = .ok (.if_icmp .ne 56, 3) := by decide +kernel
theorem dX5_walkInTime_31 : decode cX5_walkInTime 31 = .ok (.aload_n 1, 1) := by decide +kernel
theorem dX5_walkInTime_32 : decode cX5_walkInTime 32 = .ok (.iload 5, 2) := by decide +kernel
theorem dX5_walkInTime_34 : decode cX5_walkInTime 34 = .ok (.iconst 0, 1) := by decide +kernel
theorem dX5_walkInTime_35 : decode cX5_walkInTime 35 = .ok (.invokevirtual 32, 3) := by decide +kernel
theorem dX5_walkInTime_38 : decode cX5_walkInTime 38 = .ok (.istore 6, 2) := by decide +kernel
theorem dX5_walkInTime_40 : decode cX5_walkInTime 40 = .ok (.aload_n 1, 1) := by decide +kernel
theorem dX5_walkInTime_41 : decode cX5_walkInTime 41 = .ok (.iload 5, 2) := by decide +kernel
theorem dX5_walkInTime_43 : decode cX5_walkInTime 43 = .ok (.iconst 4, 1) := by decide +kernel
theorem dX5_walkInTime_44 : decode cX5_walkInTime 44 = .ok (.invokevirtual 32, 3) := by decide +kernel
theorem dX5_walkInTime_47 : decode cX5_walkInTime 47 = .ok (.iload_n 3, 1) := by decide +kernel
theorem dX5_walkInTime_48 : decode cX5_walkInTime 48 = .ok (.isub, 1) := by decide +kernel
theorem dX5_walkInTime_49 : decode cX5_walkInTime 49 = .ok (.iconst 1, 1) := by decide +kernel
theorem dX5_walkInTime_50 : decode cX5_walkInTime 50 = .ok (.iadd, 1) := by decide +kernel
theorem dX5_walkInTime_51 : decode cX5_walkInTime 51 = .ok (.istore 7, 2) := by decide +kernel
theorem dX5_walkInTime_53 : decode cX5_walkInTime 53 = .ok (.aload_n 0, 1) := by decide +kernel
theorem dX5_walkInTime_54 : decode cX5_walkInTime 54 = .ok (.getfield 9, 3) := by decide +kernel
theorem dX5_walkInTime_57 : decode cX5_walkInTime 57 = .ok (.iload 6, 2) := by decide +kernel
theorem dX5_walkInTime_59 : decode cX5_walkInTime 59 = .ok (.aload_n 0, 1) := by decide +kernel
theorem dX5_walkInTime_60 : decode cX5_walkInTime 60 = .ok (.getfield 9, 3) := by decide +kernel
theorem dX5_walkInTime_63 : decode cX5_walkInTime 63 = .ok (.iload 6, 2) := by decide +kernel
theorem dX5_walkInTime_65 : decode cX5_walkInTime 65 = .ok (.iaload, 1) := by decide +kernel
theorem dX5_walkInTime_66 : decode cX5_walkInTime 66 = .ok (.iload 7, 2) := by decide +kernel
theorem dX5_walkInTime_68 : decode cX5_walkInTime 68 = .ok (.ifCond .le 11, 3) := by decide +kernel
theorem dX5_walkInTime_71 : decode cX5_walkInTime 71 = .ok (.iload 7, 2) := by decide +kernel
theorem dX5_walkInTime_73 : decode cX5_walkInTime 73 = .ok (.iload 4, 2) := by decide +kernel
theorem dX5_walkInTime_75 : decode cX5_walkInTime 75 = .ok (.imul, 1) := by decide +kernel
theorem dX5_walkInTime_76 : decode cX5_walkInTime 76 = .ok (.goto 4, 3) := by decide +kernel
theorem dX5_walkInTime_79 : decode cX5_walkInTime 79 = .ok (.iconst (-1), 1) := by decide +kernel
theorem dX5_walkInTime_80 : decode cX5_walkInTime 80 = .ok (.invokestatic 36, 3) := by decide +kernel
theorem dX5_walkInTime_83 : decode cX5_walkInTime 83 = .ok (.iastore, 1) := by decide +kernel
theorem dX5_walkInTime_84 : decode cX5_walkInTime 84 = .ok (.iinc 5 1, 3) := by decide +kernel
theorem dX5_walkInTime_87 : decode cX5_walkInTime 87 = .ok (.goto (-75), 3) := by decide +kernel
theorem dX5_walkInTime_90 : decode cX5_walkInTime 90 = .ok (.aload_n 0, 1) := by decide +kernel
theorem dX5_walkInTime_91 : decode cX5_walkInTime 91 = .ok (.aload_n 1, 1) := by decide +kernel
theorem dX5_walkInTime_92 : decode cX5_walkInTime 92 = .ok (.iload_n 2, 1) := by decide +kernel
theorem dX5_walkInTime_93 : decode cX5_walkInTime 93 = .ok (.invokevirtual 22, 3) := by decide +kernel
theorem dX5_walkInTime_96 : decode cX5_walkInTime 96 = .ok (.return_, 1) := by decide +kernel
theorem dX5_walk_0 : decode cX5_walk 0 = .ok (.aload_n 0, 1) := by decide +kernel
theorem dX5_walk_1 : decode cX5_walk 1 = .ok (.iconst (-1), 1) := by decide +kernel
theorem dX5_walk_2 : decode cX5_walk 2 = .ok (.putfield 41, 3) := by decide +kernel
theorem dX5_walk_5 : decode cX5_walk 5 = .ok (.aload_n 0, 1) := by decide +kernel
theorem dX5_walk_6 : decode cX5_walk 6 = .ok (.iconst 0, 1) := by decide +kernel
theorem dX5_walk_7 : decode cX5_walk 7 = .ok (.putfield 44, 3) := by decide +kernel
theorem dX5_walk_10 : decode cX5_walk 10 = .ok (.iconst 0, 1) := by decide +kernel
theorem dX5_walk_11 : decode cX5_walk 11 = .ok (.istore_n 3, 1) := by decide +kernel
theorem dX5_walk_12 : decode cX5_walk 12 = .ok (.iconst 0, 1) := by decide +kernel
theorem dX5_walk_13 : decode cX5_walk 13 = .ok (.istore 4, 2) := by decide +kernel
theorem dX5_walk_15 : decode cX5_walk 15 = .ok (.iload 4, 2) := by decide +kernel
theorem dX5_walk_17 : decode cX5_walk 17 = .ok (.aload_n 1, 1) := by decide +kernel
theorem dX5_walk_18 : decode cX5_walk 18 = .ok (.getfield 26, 3) := by decide +kernel
theorem dX5_walk_21 : decode cX5_walk 21 = .ok (.if_icmp .ge 31, 3) := by decide +kernel
theorem dX5_walk_24 : decode cX5_walk 24 = .ok (.iload_n 2, 1) := by decide +kernel
theorem dX5_walk_25 : decode cX5_walk 25 = .ok (.iload 4, 2) := by decide +kernel
theorem dX5_walk_27 : decode cX5_walk 27 = .ok (.ishr, 1) := by decide +kernel
theorem dX5_walk_28 : decode cX5_walk 28 = .ok (.iconst 1, 1) := by decide +kernel
theorem dX5_walk_29 : decode cX5_walk 29 = .ok (.iand, 1) := by decide +kernel
theorem dX5_walk_30 : decode cX5_walk 30 = .ok (.iconst 1, 1) := by decide +kernel
theorem dX5_walk_31 : decode cX5_walk 31 = .ok (.if_icmp .ne 15, 3) := by decide +kernel
theorem dX5_walk_34 : decode cX5_walk 34 = .ok (.iload_n 3, 1) := by decide +kernel
theorem dX5_walk_35 : decode cX5_walk 35 = .ok (.iconst 1, 1) := by decide +kernel
theorem dX5_walk_36 : decode cX5_walk 36 = .ok (.aload_n 1, 1) := by decide +kernel
theorem dX5_walk_37 : decode cX5_walk 37 = .ok (.iload 4, 2) := by decide +kernel
theorem dX5_walk_39 : decode cX5_walk 39 = .ok (.iconst 0, 1) := by decide +kernel
theorem dX5_walk_40 : decode cX5_walk 40 = .ok (.invokevirtual 32, 3) := by decide +kernel
theorem dX5_walk_43 : decode cX5_walk 43 = .ok (.ishl, 1) := by decide +kernel
theorem dX5_walk_44 : decode cX5_walk 44 = .ok (.ior, 1) := by decide +kernel
theorem dX5_walk_45 : decode cX5_walk 45 = .ok (.istore_n 3, 1) := by decide +kernel
theorem dX5_walk_46 : decode cX5_walk 46 = .ok (.iinc 4 1, 3) := by decide +kernel
theorem dX5_walk_49 : decode cX5_walk 49 = .ok (.goto (-34), 3) := by decide +kernel
theorem dX5_walk_52 : decode cX5_walk 52 = .ok (.aload_n 0, 1) := by decide +kernel
theorem dX5_walk_53 : decode cX5_walk 53 = .ok (.aload_n 1, 1) := by decide +kernel
theorem dX5_walk_54 : decode cX5_walk 54 = .ok (.iload_n 3, 1) := by decide +kernel
theorem dX5_walk_55 : decode cX5_walk 55 = .ok (.iconst 0, 1) := by decide +kernel
theorem dX5_walk_56 : decode cX5_walk 56 = .ok (.iconst 0, 1) := by decide +kernel
theorem dX5_walk_57 : decode cX5_walk 57 = .ok (.iconst 0, 1) := by decide +kernel
theorem dX5_walk_58 : decode cX5_walk 58 = .ok (.iconst 0, 1) := by decide +kernel
theorem dX5_walk_59 : decode cX5_walk 59 = .ok (.invokevirtual 47, 3) := by decide +kernel
theorem dX5_walk_62 : decode cX5_walk 62 = .ok (.return_, 1) := by decide +kernel
theorem dX5_goOn_0 : decode cX5_goOn 0 = .ok (.iload_n 2, 1) := by decide +kernel
theorem dX5_goOn_1 : decode cX5_goOn 1 = .ok (.ifCond .ne 33, 3) := by decide +kernel
theorem dX5_goOn_4 : decode cX5_goOn 4 = .ok (.aload_n 0, 1) := by decide +kernel
theorem dX5_goOn_5 : decode cX5_goOn 5 = .ok (.getfield 41, 3) := by decide +kernel
theorem dX5_goOn_8 : decode cX5_goOn 8 = .ok (.iconst (-1), 1) := by decide +kernel
theorem dX5_goOn_9 : decode cX5_goOn 9 = .ok (.if_icmp .eq 12, 3) := by decide +kernel
theorem dX5_goOn_12 : decode cX5_goOn 12 = .ok (.iload 5, 2) := by decide +kernel
theorem dX5_goOn_14 : decode cX5_goOn 14 = .ok (.aload_n 0, 1) := by decide +kernel
theorem dX5_goOn_15 : decode cX5_goOn 15 = .ok (.getfield 41, 3) := by decide +kernel
theorem dX5_goOn_18 : decode cX5_goOn 18 = .ok (.if_icmp .ge 15, 3) := by decide +kernel
theorem dX5_goOn_21 : decode cX5_goOn 21 = .ok (.aload_n 0, 1) := by decide +kernel
theorem dX5_goOn_22 : decode cX5_goOn 22 = .ok (.iload 5, 2) := by decide +kernel
theorem dX5_goOn_24 : decode cX5_goOn 24 = .ok (.putfield 41, 3) := by decide +kernel
theorem dX5_goOn_27 : decode cX5_goOn 27 = .ok (.aload_n 0, 1) := by decide +kernel
theorem dX5_goOn_28 : decode cX5_goOn 28 = .ok (.iload 6, 2) := by decide +kernel
theorem dX5_goOn_30 : decode cX5_goOn 30 = .ok (.putfield 44, 3) := by decide +kernel
theorem dX5_goOn_33 : decode cX5_goOn 33 = .ok (.return_, 1) := by decide +kernel
theorem dX5_goOn_34 : decode cX5_goOn 34 = .ok (.iconst 0, 1) := by decide +kernel
theorem dX5_goOn_35 : decode cX5_goOn 35 = .ok (.istore 7, 2) := by decide +kernel
theorem dX5_goOn_37 : decode cX5_goOn 37 = .ok (.iload 7, 2) := by decide +kernel
theorem dX5_goOn_39 : decode cX5_goOn 39 = .ok (.iconst 5, 1) := by decide +kernel
theorem dX5_goOn_40 : decode cX5_goOn 40 = .ok (.if_icmp .ge 119, 3) := by decide +kernel
theorem dX5_goOn_43 : decode cX5_goOn 43 = .ok (.iload_n 2, 1) := by decide +kernel
theorem dX5_goOn_44 : decode cX5_goOn 44 = .ok (.iload 7, 2) := by decide +kernel
theorem dX5_goOn_46 : decode cX5_goOn 46 = .ok (.ishr, 1) := by decide +kernel
theorem dX5_goOn_47 : decode cX5_goOn 47 = .ok (.iconst 1, 1) := by decide +kernel
theorem dX5_goOn_48 : decode cX5_goOn 48 = .ok (.iand, 1) := by decide +kernel
theorem dX5_goOn_49 : decode cX5_goOn 49 = .ok (.iconst 1, 1) := by decide +kernel
theorem dX5_goOn_50 : decode cX5_goOn 50 = .ok (.if_icmp .ne 103, 3) := by decide +kernel
theorem dX5_goOn_53 : decode cX5_goOn 53 = .ok (.aload_n 1, 1) := by decide +kernel
theorem dX5_goOn_54 : decode cX5_goOn 54 = .ok (.getfield 51, 3) := by decide +kernel
theorem dX5_goOn_57 : decode cX5_goOn 57 = .ok (.iload 7, 2) := by decide +kernel
theorem dX5_goOn_59 : decode cX5_goOn 59 = .ok (.iaload, 1) := by decide +kernel
theorem dX5_goOn_60 : decode cX5_goOn 60 = .ok (.iload_n 3, 1) := by decide +kernel
theorem dX5_goOn_61 : decode cX5_goOn 61 = .ok (.isub, 1) := by decide +kernel
theorem dX5_goOn_62 : decode cX5_goOn 62 = .ok (.invokestatic 54, 3) := by decide +kernel
theorem dX5_goOn_65 : decode cX5_goOn 65 = .ok (.istore 8, 2) := by decide +kernel
theorem dX5_goOn_67 : decode cX5_goOn 67 = .ok (.aload_n 1, 1) := by decide +kernel
theorem dX5_goOn_68 : decode cX5_goOn 68 = .ok (.getfield 58, 3) := by decide +kernel
theorem dX5_goOn_71 : decode cX5_goOn 71 = .ok (.iload 7, 2) := by decide +kernel
theorem dX5_goOn_73 : decode cX5_goOn 73 = .ok (.iaload, 1) := by decide +kernel
theorem dX5_goOn_74 : decode cX5_goOn 74 = .ok (.iload 4, 2) := by decide +kernel
theorem dX5_goOn_76 : decode cX5_goOn 76 = .ok (.isub, 1) := by decide +kernel
theorem dX5_goOn_77 : decode cX5_goOn 77 = .ok (.invokestatic 54, 3) := by decide +kernel
theorem dX5_goOn_80 : decode cX5_goOn 80 = .ok (.istore 9, 2) := by decide +kernel
theorem dX5_goOn_82 : decode cX5_goOn 82 = .ok (.iload 5, 2) := by decide +kernel
theorem dX5_goOn_84 : decode cX5_goOn 84 = .ok (.aload_n 1, 1) := by decide +kernel
theorem dX5_goOn_85 : decode cX5_goOn 85 = .ok (.getfield 61, 3) := by decide +kernel
theorem dX5_goOn_88 : decode cX5_goOn 88 = .ok (.iload 8, 2) := by decide +kernel
theorem dX5_goOn_90 : decode cX5_goOn 90 = .ok (.imul, 1) := by decide +kernel
theorem dX5_goOn_91 : decode cX5_goOn 91 = .ok (.iadd, 1) := by decide +kernel
theorem dX5_goOn_92 : decode cX5_goOn 92 = .ok (.aload_n 1, 1) := by decide +kernel
theorem dX5_goOn_93 : decode cX5_goOn 93 = .ok (.getfield 64, 3) := by decide +kernel
theorem dX5_goOn_96 : decode cX5_goOn 96 = .ok (.iload 9, 2) := by decide +kernel
theorem dX5_goOn_98 : decode cX5_goOn 98 = .ok (.imul, 1) := by decide +kernel
theorem dX5_goOn_99 : decode cX5_goOn 99 = .ok (.iadd, 1) := by decide +kernel
theorem dX5_goOn_100 : decode cX5_goOn 100 = .ok (.istore 10, 2) := by decide +kernel
theorem dX5_goOn_102 : decode cX5_goOn 102 = .ok (.iload 10, 2) := by decide +kernel
theorem dX5_goOn_104 : decode cX5_goOn 104 = .ok (.aload_n 0, 1) := by decide +kernel
theorem dX5_goOn_105 : decode cX5_goOn 105 = .ok (.getfield 9, 3) := by decide +kernel
theorem dX5_goOn_108 : decode cX5_goOn 108 = .ok (.iload 7, 2) := by decide +kernel
theorem dX5_goOn_110 : decode cX5_goOn 110 = .ok (.iaload, 1) := by decide +kernel
theorem dX5_goOn_111 : decode cX5_goOn 111 = .ok (.if_icmp .gt 42, 3) := by decide +kernel
theorem dX5_goOn_114 : decode cX5_goOn 114 = .ok (.aload_n 0, 1) := by decide +kernel
theorem dX5_goOn_115 : decode cX5_goOn 115 = .ok (.aload_n 1, 1) := by decide +kernel
theorem dX5_goOn_116 : decode cX5_goOn 116 = .ok (.iload_n 2, 1) := by decide +kernel
theorem dX5_goOn_117 : decode cX5_goOn 117 = .ok (.iconst 1, 1) := by decide +kernel
theorem dX5_goOn_118 : decode cX5_goOn 118 = .ok (.iload 7, 2) := by decide +kernel
theorem dX5_goOn_120 : decode cX5_goOn 120 = .ok (.ishl, 1) := by decide +kernel
theorem dX5_goOn_121 : decode cX5_goOn 121 = .ok (.iconst (-1), 1) := by decide +kernel
theorem dX5_goOn_122 : decode cX5_goOn 122 = .ok (.ixor, 1) := by decide +kernel
theorem dX5_goOn_123 : decode cX5_goOn 123 = .ok (.iand, 1) := by decide +kernel
theorem dX5_goOn_124 : decode cX5_goOn 124 = .ok (.aload_n 1, 1) := by decide +kernel
theorem dX5_goOn_125 : decode cX5_goOn 125 = .ok (.getfield 51, 3) := by decide +kernel
theorem dX5_goOn_128 : decode cX5_goOn 128 = .ok (.iload 7, 2) := by decide +kernel
theorem dX5_goOn_130 : decode cX5_goOn 130 = .ok (.iaload, 1) := by decide +kernel
theorem dX5_goOn_131 : decode cX5_goOn 131 = .ok (.aload_n 1, 1) := by decide +kernel
theorem dX5_goOn_132 : decode cX5_goOn 132 = .ok (.getfield 58, 3) := by decide +kernel
theorem dX5_goOn_135 : decode cX5_goOn 135 = .ok (.iload 7, 2) := by decide +kernel
theorem dX5_goOn_137 : decode cX5_goOn 137 = .ok (.iaload, 1) := by decide +kernel
theorem dX5_goOn_138 : decode cX5_goOn 138 = .ok (.iload 10, 2) := by decide +kernel
theorem dX5_goOn_140 : decode cX5_goOn 140 = .ok (.bipush 10, 2) := by decide +kernel
theorem dX5_goOn_142 : decode cX5_goOn 142 = .ok (.iload 6, 2) := by decide +kernel
theorem dX5_goOn_144 : decode cX5_goOn 144 = .ok (.imul, 1) := by decide +kernel
theorem dX5_goOn_145 : decode cX5_goOn 145 = .ok (.iload 7, 2) := by decide +kernel
theorem dX5_goOn_147 : decode cX5_goOn 147 = .ok (.iadd, 1) := by decide +kernel
theorem dX5_goOn_148 : decode cX5_goOn 148 = .ok (.iconst 1, 1) := by decide +kernel
theorem dX5_goOn_149 : decode cX5_goOn 149 = .ok (.iadd, 1) := by decide +kernel
theorem dX5_goOn_150 : decode cX5_goOn 150 = .ok (.invokevirtual 47, 3) := by decide +kernel
theorem dX5_goOn_153 : decode cX5_goOn 153 = .ok (.iinc 7 1, 3) := by decide +kernel
theorem dX5_goOn_156 : decode cX5_goOn 156 = .ok (.goto (-119), 3) := by decide +kernel
theorem dX5_goOn_159 : decode cX5_goOn 159 = .ok (.return_, 1) := by decide +kernel
theorem dX6_init_0 : decode cX6_init 0 = .ok (.aload_n 0, 1) := by decide +kernel
theorem dX6_init_1 : decode cX6_init 1 = .ok (.invokespecial 3, 3) := by decide +kernel
theorem dX6_init_4 : decode cX6_init 4 = .ok (.aload_n 0, 1) := by decide +kernel
theorem dX6_init_5 : decode cX6_init 5 = .ok (.iconst 5, 1) := by decide +kernel
theorem dX6_init_6 : decode cX6_init 6 = .ok (.newarray .int, 2) := by decide +kernel
theorem dX6_init_8 : decode cX6_init 8 = .ok (.putfield 9, 3) := by decide +kernel
theorem dX6_init_11 : decode cX6_init 11 = .ok (.aload_n 0, 1) := by decide +kernel
theorem dX6_init_12 : decode cX6_init 12 = .ok (.iconst 5, 1) := by decide +kernel
theorem dX6_init_13 : decode cX6_init 13 = .ok (.newarray .int, 2) := by decide +kernel
theorem dX6_init_15 : decode cX6_init 15 = .ok (.putfield 15, 3) := by decide +kernel
theorem dX6_init_18 : decode cX6_init 18 = .ok (.aload_n 0, 1) := by decide +kernel
theorem dX6_init_19 : decode cX6_init 19 = .ok (.iconst 5, 1) := by decide +kernel
theorem dX6_init_20 : decode cX6_init 20 = .ok (.newarray .int, 2) := by decide +kernel
theorem dX6_init_22 : decode cX6_init 22 = .ok (.putfield 18, 3) := by decide +kernel
theorem dX6_init_25 : decode cX6_init 25 = .ok (.aload_n 0, 1) := by decide +kernel
theorem dX6_init_26 : decode cX6_init 26 = .ok (.iconst 5, 1) := by decide +kernel
theorem dX6_init_27 : decode cX6_init 27 = .ok (.newarray .int, 2) := by decide +kernel
theorem dX6_init_29 : decode cX6_init 29 = .ok (.putfield 21, 3) := by decide +kernel
theorem dX6_init_32 : decode cX6_init 32 = .ok (.aload_n 0, 1) := by decide +kernel
theorem dX6_init_33 : decode cX6_init 33 = .ok (.iconst 5, 1) := by decide +kernel
theorem dX6_init_34 : decode cX6_init 34 = .ok (.newarray .int, 2) := by decide +kernel
theorem dX6_init_36 : decode cX6_init 36 = .ok (.putfield 24, 3) := by decide +kernel
theorem dX6_init_39 : decode cX6_init 39 = .ok (.aload_n 0, 1) := by decide +kernel
theorem dX6_init_40 : decode cX6_init 40 = .ok (.sipush 201, 3) := by decide +kernel
theorem dX6_init_43 : decode cX6_init 43 = .ok (.newarray .int, 2) := by decide +kernel
theorem dX6_init_45 : decode cX6_init 45 = .ok (.putfield 27, 3) := by decide +kernel
theorem dX6_init_48 : decode cX6_init 48 = .ok (.aload_n 0, 1) := by decide +kernel
theorem dX6_init_49 : decode cX6_init 49 = .ok (.bipush 60, 2) := by decide +kernel
theorem dX6_init_51 : decode cX6_init 51 = .ok (.newarray .int, 2) := by decide +kernel
theorem dX6_init_53 : decode cX6_init 53 = .ok (.putfield 30, 3) := by decide +kernel
theorem dX6_init_56 : decode cX6_init 56 = .ok (.aload_n 0, 1) := by decide +kernel
theorem dX6_init_57 : decode cX6_init 57 = .ok (.invokevirtual 33, 3) := by decide +kernel
theorem dX6_init_60 : decode cX6_init 60 = .ok (.return_, 1) := by decide +kernel
theorem dX6_part_0 : decode cX6_part 0 = .ok (.aload_n 0, 1) := by decide +kernel
theorem dX6_part_1 : decode cX6_part 1 = .ok (.getfield 30, 3) := by decide +kernel
theorem dX6_part_4 : decode cX6_part 4 = .ok (.iconst 5, 1) := by decide +kernel
theorem dX6_part_5 : decode cX6_part 5 = .ok (.iload_n 1, 1) := by decide +kernel
theorem dX6_part_6 : decode cX6_part 6 = .ok (.imul, 1) := by decide +kernel
theorem dX6_part_7 : decode cX6_part 7 = .ok (.iload_n 2, 1) := by decide +kernel
theorem dX6_part_8 : decode cX6_part 8 = .ok (.iadd, 1) := by decide +kernel
theorem dX6_part_9 : decode cX6_part 9 = .ok (.iaload, 1) := by decide +kernel
theorem dX6_part_10 : decode cX6_part 10 = .ok (.ireturn, 1) := by decide +kernel
theorem dX6_cellOf_0 : decode cX6_cellOf 0 = .ok (.iconst 5, 1) := by decide +kernel
theorem dX6_cellOf_1 : decode cX6_cellOf 1 = .ok (.iload_n 1, 1) := by decide +kernel
theorem dX6_cellOf_2 : decode cX6_cellOf 2 = .ok (.imul, 1) := by decide +kernel
theorem dX6_cellOf_3 : decode cX6_cellOf 3 = .ok (.istore_n 2, 1) := by decide +kernel
theorem dX6_cellOf_4 : decode cX6_cellOf 4 = .ok (.aload_n 0, 1) := by decide +kernel
theorem dX6_cellOf_5 : decode cX6_cellOf 5 = .ok (.getfield 30, 3) := by decide +kernel
theorem dX6_cellOf_8 : decode cX6_cellOf 8 = .ok (.iload_n 2, 1) := by decide +kernel
theorem dX6_cellOf_9 : decode cX6_cellOf 9 = .ok (.iconst 0, 1) := by decide +kernel
theorem dX6_cellOf_10 : decode cX6_cellOf 10 = .ok (.iadd, 1) := by decide +kernel
theorem dX6_cellOf_11 : decode cX6_cellOf 11 = .ok (.iaload, 1) := by decide +kernel
theorem dX6_cellOf_12 : decode cX6_cellOf 12 = .ok (.aload_n 0, 1) := by decide +kernel
theorem dX6_cellOf_13 : decode cX6_cellOf 13 = .ok (.getfield 30, 3) := by decide +kernel
theorem dX6_cellOf_16 : decode cX6_cellOf 16 = .ok (.iload_n 2, 1) := by decide +kernel
theorem dX6_cellOf_17 : decode cX6_cellOf 17 = .ok (.iconst 1, 1) := by decide +kernel
theorem dX6_cellOf_18 : decode cX6_cellOf 18 = .ok (.iadd, 1) := by decide +kernel
theorem dX6_cellOf_19 : decode cX6_cellOf 19 = .ok (.iaload, 1) := by decide +kernel
theorem dX6_cellOf_20 : decode cX6_cellOf 20 = .ok (.aload_n 0, 1) := by decide +kernel
theorem dX6_cellOf_21 : decode cX6_cellOf 21 = .ok (.getfield 30, 3) := by decide +kernel
theorem dX6_cellOf_24 : decode cX6_cellOf 24 = .ok (.iload_n 2, 1) := by decide +kernel
theorem dX6_cellOf_25 : decode cX6_cellOf 25 = .ok (.iconst 2, 1) := by decide +kernel
theorem dX6_cellOf_26 : decode cX6_cellOf 26 = .ok (.iadd, 1) := by decide +kernel
theorem dX6_cellOf_27 : decode cX6_cellOf 27 = .ok (.iaload, 1) := by decide +kernel
theorem dX6_cellOf_28 : decode cX6_cellOf 28 = .ok (.invokestatic 36, 3) := by decide +kernel
theorem dX6_cellOf_31 : decode cX6_cellOf 31 = .ok (.ireturn, 1) := by decide +kernel
theorem dX6_read_0 : decode cX6_read 0 = .ok (.aload_n 0, 1) := by decide +kernel
theorem dX6_read_1 : decode cX6_read 1 = .ok (.invokevirtual 33, 3) := by decide +kernel
theorem dX6_read_4 : decode cX6_read 4 = .ok (.iconst 0, 1) := by decide +kernel
theorem dX6_read_5 : decode cX6_read 5 = .ok (.istore_n 2, 1) := by decide +kernel
theorem dX6_read_6 : decode cX6_read 6 = .ok (.iload_n 2, 1) := by decide +kernel
theorem dX6_read_7 : decode cX6_read 7 = .ok (.bipush 60, 2) := by decide +kernel
theorem dX6_read_9 : decode cX6_read 9 = .ok (.if_icmp .gt 29, 3) := by decide +kernel
theorem dX6_read_12 : decode cX6_read 12 = .ok (.aload_n 1, 1) := by decide +kernel
theorem dX6_read_13 : decode cX6_read 13 = .ok (.getfield 40, 3) := by decide +kernel
theorem dX6_read_16 : decode cX6_read 16 = .ok (.ifCond .ne 22, 3) := by decide +kernel
theorem dX6_read_19 : decode cX6_read 19 = .ok (.aload_n 1, 1) := by decide +kernel
theorem dX6_read_20 : decode cX6_read 20 = .ok (.getfield 46, 3) := by decide +kernel
theorem dX6_read_23 : decode cX6_read 23 = .ok (.ifCond .eq 15, 3) := by decide +kernel
theorem dX6_read_26 : decode cX6_read 26 = .ok (.aload_n 0, 1) := by decide +kernel
theorem dX6_read_27 : decode cX6_read 27 = .ok (.aload_n 1, 1) := by decide +kernel
theorem dX6_read_28 : decode cX6_read 28 = .ok (.iload_n 2, 1) := by decide +kernel
theorem dX6_read_29 : decode cX6_read 29 = .ok (.invokevirtual 49, 3) := by decide +kernel
theorem dX6_read_32 : decode cX6_read 32 = .ok (.iinc 2 1, 3) := by decide +kernel
theorem dX6_read_35 : decode cX6_read 35 = .ok (.goto (-29), 3) := by decide +kernel
theorem dX6_read_38 : decode cX6_read 38 = .ok (.aload_n 1, 1) := by decide +kernel
theorem dX6_read_39 : decode cX6_read 39 = .ok (.invokevirtual 53, 3) := by decide +kernel
theorem dX6_read_42 : decode cX6_read 42 = .ok (.ireturn, 1) := by decide +kernel
theorem dX6_forget_0 : decode cX6_forget 0 = .ok (.aload_n 0, 1) := by decide +kernel
theorem dX6_forget_1 : decode cX6_forget 1 = .ok (.iconst 0, 1) := by decide +kernel
theorem dX6_forget_2 : decode cX6_forget 2 = .ok (.putfield 57, 3) := by decide +kernel
theorem dX6_forget_5 : decode cX6_forget 5 = .ok (.aload_n 0, 1) := by decide +kernel
theorem dX6_forget_6 : decode cX6_forget 6 = .ok (.iconst 0, 1) := by decide +kernel
theorem dX6_forget_7 : decode cX6_forget 7 = .ok (.putfield 60, 3) := by decide +kernel
theorem dX6_forget_10 : decode cX6_forget 10 = .ok (.aload_n 0, 1) := by decide +kernel
theorem dX6_forget_11 : decode cX6_forget 11 = .ok (.iconst 0, 1) := by decide +kernel
theorem dX6_forget_12 : decode cX6_forget 12 = .ok (.putfield 63, 3) := by decide +kernel
theorem dX6_forget_15 : decode cX6_forget 15 = .ok (.aload_n 0, 1) := by decide +kernel
theorem dX6_forget_16 : decode cX6_forget 16 = .ok (.iconst 1, 1) := by decide +kernel
theorem dX6_forget_17 : decode cX6_forget 17 = .ok (.putfield 66, 3) := by decide +kernel
theorem dX6_forget_20 : decode cX6_forget 20 = .ok (.aload_n 0, 1) := by decide +kernel
theorem dX6_forget_21 : decode cX6_forget 21 = .ok (.iconst 3, 1) := by decide +kernel
theorem dX6_forget_22 : decode cX6_forget 22 = .ok (.putfield 69, 3) := by decide +kernel
theorem dX6_forget_25 : decode cX6_forget 25 = .ok (.aload_n 0, 1) := by decide +kernel
theorem dX6_forget_26 : decode cX6_forget 26 = .ok (.bipush 20, 2) := by decide +kernel
theorem dX6_forget_28 : decode cX6_forget 28 = .ok (.putfield 72, 3) := by decide +kernel
theorem dX6_forget_31 : decode cX6_forget 31 = .ok (.aload_n 0, 1) := by decide +kernel
theorem dX6_forget_32 : decode cX6_forget 32 = .ok (.getfield 27, 3) := by decide +kernel
theorem dX6_forget_35 : decode cX6_forget 35 = .ok (.iconst 0, 1) := by decide +kernel
theorem dX6_forget_36 : decode cX6_forget 36 = .ok (.invokestatic 75, 3) := by decide +kernel
theorem dX6_forget_39 : decode cX6_forget 39 = .ok (.return_, 1) := by decide +kernel
theorem dX6_readClause_0 : decode cX6_readClause 0 = .ok (.aload_n 1, 1) := by decide +kernel
theorem dX6_readClause_1 : decode cX6_readClause 1 = .ok (.invokestatic 81, 3) := by decide +kernel
theorem dX6_readClause_4 : decode cX6_readClause 4 = .ok (.istore_n 3, 1) := by decide +kernel
theorem dX6_readClause_5 : decode cX6_readClause 5 = .ok (.iload_n 3, 1) := by decide +kernel
theorem dX6_readClause_6 : decode cX6_readClause 6 = .ok (.iconst (-1), 1) := by decide +kernel
theorem dX6_readClause_7 : decode cX6_readClause 7 = .ok (.if_icmp .ne 11, 3) := by decide +kernel
theorem dX6_readClause_10 : decode cX6_readClause 10 = .ok (.aload_n 1, 1) := by decide +kernel
theorem dX6_readClause_11 : decode cX6_readClause 11 = .ok (.iconst 1, 1) := by decide +kernel
theorem dX6_readClause_12 : decode cX6_readClause 12 = .ok (.invokevirtual 85, 3) := by decide +kernel
theorem dX6_readClause_15 : decode cX6_readClause 15 = .ok (.goto 41, 3) := by decide +kernel
theorem dX6_readClause_18 : decode cX6_readClause 18 = .ok (.iload_n 2, 1) := by decide +kernel
theorem dX6_readClause_19 : decode cX6_readClause 19 = .ok (.bipush 60, 2) := by decide +kernel
theorem dX6_readClause_21 : decode cX6_readClause 21 = .ok (.if_icmp .ge 11, 3) := by decide +kernel
theorem dX6_readClause_24 : decode cX6_readClause 24 = .ok (.aload_n 0, 1) := by decide +kernel
theorem dX6_readClause_25 : decode cX6_readClause 25 = .ok (.iload_n 3, 1) := by decide +kernel
theorem dX6_readClause_26 : decode cX6_readClause 26 = .ok (.invokevirtual 89, 3) := by decide +kernel
theorem dX6_readClause_29 : decode cX6_readClause 29 = .ok (.ifCond .eq 11, 3) := by decide +kernel
theorem dX6_readClause_32 : decode cX6_readClause 32 = .ok (.aload_n 1, 1) := by decide +kernel
theorem dX6_readClause_33 : decode cX6_readClause 33 = .ok (.iconst 3, 1) := by decide +kernel
theorem dX6_readClause_34 : decode cX6_readClause 34 = .ok (.invokevirtual 85, 3) := by decide +kernel
theorem dX6_readClause_37 : decode cX6_readClause 37 = .ok (.goto 19, 3) := by decide +kernel
theorem dX6_readClause_40 : decode cX6_readClause 40 = .ok (.aload_n 1, 1) := by decide +kernel
theorem dX6_readClause_41 : decode cX6_readClause 41 = .ok (.invokevirtual 93, 3) := by decide +kernel
theorem dX6_readClause_44 : decode cX6_readClause 44 = .ok (.aload_n 0, 1) := by decide +kernel
theorem dX6_readClause_45 : decode cX6_readClause 45 = .ok (.aload_n 1, 1) := by decide +kernel
theorem dX6_readClause_46 : decode cX6_readClause 46 = .ok (.iload_n 3, 1) := by decide +kernel
theorem dX6_readClause_47 : decode cX6_readClause 47 = .ok (.invokevirtual 96, 3) := by decide +kernel
theorem dX6_readClause_50 : decode cX6_readClause 50 = .ok (.aload_n 1, 1) := by decide +kernel
theorem dX6_readClause_51 : decode cX6_readClause 51 = .ok (.bipush 59, 2) := by decide +kernel
theorem dX6_readClause_53 : decode cX6_readClause 53 = .ok (.invokevirtual 99, 3) := by decide +kernel
theorem dX6_readClause_56 : decode cX6_readClause 56 = .ok (.return_, 1) := by decide +kernel
theorem dX6_clauseOf_0 : decode cX6_clauseOf 0 = .ok (.aload_n 0, 1) := by decide +kernel
theorem dX6_clauseOf_1 : decode cX6_clauseOf 1 = .ok (.ldc 103, 2) := by decide +kernel
theorem dX6_clauseOf_3 : decode cX6_clauseOf 3 = .ok (.invokevirtual 105, 3) := by decide +kernel
theorem dX6_clauseOf_6 : decode cX6_clauseOf 6 = .ok (.ifCond .eq 5, 3) := by decide +kernel
theorem dX6_clauseOf_9 : decode cX6_clauseOf 9 = .ok (.iconst 0, 1) := by decide +kernel
theorem dX6_clauseOf_10 : decode cX6_clauseOf 10 = .ok (.ireturn, 1) := by decide +kernel
theorem dX6_clauseOf_11 : decode cX6_clauseOf 11 = .ok (.aload_n 0, 1) := by decide +kernel
theorem dX6_clauseOf_12 : decode cX6_clauseOf 12 = .ok (.ldc 109, 2) := by decide +kernel
theorem dX6_clauseOf_14 : decode cX6_clauseOf 14 = .ok (.invokevirtual 105, 3) := by decide +kernel
theorem dX6_clauseOf_17 : decode cX6_clauseOf 17 = .ok (.ifCond .eq 5, 3) := by decide +kernel
theorem dX6_clauseOf_20 : decode cX6_clauseOf 20 = .ok (.iconst 1, 1) := by decide +kernel
theorem dX6_clauseOf_21 : decode cX6_clauseOf 21 = .ok (.ireturn, 1) := by decide +kernel
theorem dX6_clauseOf_22 : decode cX6_clauseOf 22 = .ok (.aload_n 0, 1) := by decide +kernel
theorem dX6_clauseOf_23 : decode cX6_clauseOf 23 = .ok (.ldc 111, 2) := by decide +kernel
theorem dX6_clauseOf_25 : decode cX6_clauseOf 25 = .ok (.invokevirtual 105, 3) := by decide +kernel
theorem dX6_clauseOf_28 : decode cX6_clauseOf 28 = .ok (.ifCond .eq 5, 3) := by decide +kernel
theorem dX6_clauseOf_31 : decode cX6_clauseOf 31 = .ok (.iconst 2, 1) := by decide +kernel
theorem dX6_clauseOf_32 : decode cX6_clauseOf 32 = .ok (.ireturn, 1) := by decide +kernel
theorem dX6_clauseOf_33 : decode cX6_clauseOf 33 = .ok (.aload_n 0, 1) := by decide +kernel
theorem dX6_clauseOf_34 : decode cX6_clauseOf 34 = .ok (.ldc 112, 2) := by decide +kernel
theorem dX6_clauseOf_36 : decode cX6_clauseOf 36 = .ok (.invokevirtual 105, 3) := by decide +kernel
theorem dX6_clauseOf_39 : decode cX6_clauseOf 39 = .ok (.ifCond .eq 5, 3) := by decide +kernel
theorem dX6_clauseOf_42 : decode cX6_clauseOf 42 = .ok (.iconst 3, 1) := by decide +kernel
theorem dX6_clauseOf_43 : decode cX6_clauseOf 43 = .ok (.ireturn, 1) := by decide +kernel
theorem dX6_clauseOf_44 : decode cX6_clauseOf 44 = .ok (.aload_n 0, 1) := by decide +kernel
theorem dX6_clauseOf_45 : decode cX6_clauseOf 45 = .ok (.ldc 114, 2) := by decide +kernel
theorem dX6_clauseOf_47 : decode cX6_clauseOf 47 = .ok (.invokevirtual 105, 3) := by decide +kernel
theorem dX6_clauseOf_50 : decode cX6_clauseOf 50 = .ok (.ifCond .eq 7, 3) := by decide +kernel
theorem dX6_clauseOf_53 : decode cX6_clauseOf 53 = .ok (.iconst 4, 1) := by decide +kernel
theorem dX6_clauseOf_54 : decode cX6_clauseOf 54 = .ok (.goto 4, 3) := by decide +kernel
theorem dX6_clauseOf_57 : decode cX6_clauseOf 57 = .ok (.iconst (-1), 1) := by decide +kernel
theorem dX6_clauseOf_58 : decode cX6_clauseOf 58 = .ok (.ireturn, 1) := by decide +kernel
theorem dX6_isFull_0 : decode cX6_isFull 0 = .ok (.iload_n 1, 1) := by decide +kernel
theorem dX6_isFull_1 : decode cX6_isFull 1 = .ok (.ifCond .ne 11, 3) := by decide +kernel
theorem dX6_isFull_4 : decode cX6_isFull 4 = .ok (.aload_n 0, 1) := by decide +kernel
theorem dX6_isFull_5 : decode cX6_isFull 5 = .ok (.getfield 57, 3) := by decide +kernel
theorem dX6_isFull_8 : decode cX6_isFull 8 = .ok (.iconst 5, 1) := by decide +kernel
theorem dX6_isFull_9 : decode cX6_isFull 9 = .ok (.if_icmp .ge 31, 3) := by decide +kernel
theorem dX6_isFull_12 : decode cX6_isFull 12 = .ok (.iload_n 1, 1) := by decide +kernel
theorem dX6_isFull_13 : decode cX6_isFull 13 = .ok (.iconst 1, 1) := by decide +kernel
theorem dX6_isFull_14 : decode cX6_isFull 14 = .ok (.if_icmp .ne 12, 3) := by decide +kernel
theorem dX6_isFull_17 : decode cX6_isFull 17 = .ok (.aload_n 0, 1) := by decide +kernel
theorem dX6_isFull_18 : decode cX6_isFull 18 = .ok (.getfield 60, 3) := by decide +kernel
theorem dX6_isFull_21 : decode cX6_isFull 21 = .ok (.bipush 12, 2) := by decide +kernel
theorem dX6_isFull_23 : decode cX6_isFull 23 = .ok (.if_icmp .ge 17, 3) := by decide +kernel
theorem dX6_isFull_26 : decode cX6_isFull 26 = .ok (.iload_n 1, 1) := by decide +kernel
theorem dX6_isFull_27 : decode cX6_isFull 27 = .ok (.iconst 2, 1) := by decide +kernel
theorem dX6_isFull_28 : decode cX6_isFull 28 = .ok (.if_icmp .ne 16, 3) := by decide +kernel
theorem dX6_isFull_31 : decode cX6_isFull 31 = .ok (.aload_n 0, 1) := by decide +kernel
theorem dX6_isFull_32 : decode cX6_isFull 32 = .ok (.getfield 63, 3) := by decide +kernel
theorem dX6_isFull_35 : decode cX6_isFull 35 = .ok (.bipush 12, 2) := by decide +kernel
theorem dX6_isFull_37 : decode cX6_isFull 37 = .ok (.if_icmp .lt 7, 3) := by decide +kernel
theorem dX6_isFull_40 : decode cX6_isFull 40 = .ok (.iconst 1, 1) := by decide +kernel
theorem dX6_isFull_41 : decode cX6_isFull 41 = .ok (.goto 4, 3) := by decide +kernel
theorem dX6_isFull_44 : decode cX6_isFull 44 = .ok (.iconst 0, 1) := by decide +kernel
theorem dX6_isFull_45 : decode cX6_isFull 45 = .ok (.ireturn, 1) := by decide +kernel
theorem dX6_readNumbers_0 : decode cX6_readNumbers 0 = .ok (.iload_n 2, 1) := by decide +kernel
theorem dX6_readNumbers_1 : decode cX6_readNumbers 1 = .ok (.tableswitch 110 0 3 #[31, 39, 77, 85], 31) := by decide +kernel
theorem dX6_readNumbers_32 : decode cX6_readNumbers 32 = .ok (.aload_n 0, 1) := by decide +kernel
theorem dX6_readNumbers_33 : decode cX6_readNumbers 33 = .ok (.aload_n 1, 1) := by decide +kernel
theorem dX6_readNumbers_34 : decode cX6_readNumbers 34 = .ok (.invokevirtual 115, 3) := by decide +kernel
theorem dX6_readNumbers_37 : decode cX6_readNumbers 37 = .ok (.goto 85, 3) := by decide +kernel
theorem dX6_readNumbers_40 : decode cX6_readNumbers 40 = .ok (.aload_n 1, 1) := by decide +kernel
theorem dX6_readNumbers_41 : decode cX6_readNumbers 41 = .ok (.iconst 1, 1) := by decide +kernel
theorem dX6_readNumbers_42 : decode cX6_readNumbers 42 = .ok (.sipush 200, 3) := by decide +kernel
theorem dX6_readNumbers_45 : decode cX6_readNumbers 45 = .ok (.invokevirtual 119, 3) := by decide +kernel
theorem dX6_readNumbers_48 : decode cX6_readNumbers 48 = .ok (.istore_n 3, 1) := by decide +kernel
theorem dX6_readNumbers_49 : decode cX6_readNumbers 49 = .ok (.aload_n 0, 1) := by decide +kernel
theorem dX6_readNumbers_50 : decode cX6_readNumbers 50 = .ok (.getfield 27, 3) := by decide +kernel
theorem dX6_readNumbers_53 : decode cX6_readNumbers 53 = .ok (.iload_n 3, 1) := by decide +kernel
theorem dX6_readNumbers_54 : decode cX6_readNumbers 54 = .ok (.dup2, 1) := by decide +kernel
theorem dX6_readNumbers_55 : decode cX6_readNumbers 55 = .ok (.iaload, 1) := by decide +kernel
theorem dX6_readNumbers_56 : decode cX6_readNumbers 56 = .ok (.aload_n 1, 1) := by decide +kernel
theorem dX6_readNumbers_57 : decode cX6_readNumbers 57 = .ok (.iconst 1, 1) := by decide +kernel
theorem dX6_readNumbers_58 : decode cX6_readNumbers 58 = .ok (.bipush 9, 2) := by decide +kernel
theorem dX6_readNumbers_60 : decode cX6_readNumbers 60 = .ok (.invokevirtual 119, 3) := by decide +kernel
theorem dX6_readNumbers_63 : decode cX6_readNumbers 63 = .ok (.iadd, 1) := by decide +kernel
theorem dX6_readNumbers_64 : decode cX6_readNumbers 64 = .ok (.iastore, 1) := by decide +kernel
theorem dX6_readNumbers_65 : decode cX6_readNumbers 65 = .ok (.aload_n 0, 1) := by decide +kernel
theorem dX6_readNumbers_66 : decode cX6_readNumbers 66 = .ok (.dup, 1) := by decide +kernel
theorem dX6_readNumbers_67 : decode cX6_readNumbers 67 = .ok (.getfield 60, 3) := by decide +kernel
theorem dX6_readNumbers_70 : decode cX6_readNumbers 70 = .ok (.iconst 1, 1) := by decide +kernel
theorem dX6_readNumbers_71 : decode cX6_readNumbers 71 = .ok (.iadd, 1) := by decide +kernel
theorem dX6_readNumbers_72 : decode cX6_readNumbers 72 = .ok (.putfield 60, 3) := by decide +kernel
theorem dX6_readNumbers_75 : decode cX6_readNumbers 75 = .ok (.goto 47, 3) := by decide +kernel
theorem dX6_readNumbers_78 : decode cX6_readNumbers 78 = .ok (.aload_n 0, 1) := by decide +kernel
theorem dX6_readNumbers_79 : decode cX6_readNumbers 79 = .ok (.aload_n 1, 1) := by decide +kernel
theorem dX6_readNumbers_80 : decode cX6_readNumbers 80 = .ok (.invokevirtual 123, 3) := by decide +kernel
theorem dX6_readNumbers_83 : decode cX6_readNumbers 83 = .ok (.goto 39, 3) := by decide +kernel
theorem dX6_readNumbers_86 : decode cX6_readNumbers 86 = .ok (.aload_n 0, 1) := by decide +kernel
theorem dX6_readNumbers_87 : decode cX6_readNumbers 87 = .ok (.aload_n 1, 1) := by decide +kernel
theorem dX6_readNumbers_88 : decode cX6_readNumbers 88 = .ok (.iconst 1, 1) := by decide +kernel
theorem dX6_readNumbers_89 : decode cX6_readNumbers 89 = .ok (.bipush 9, 2) := by decide +kernel
theorem dX6_readNumbers_91 : decode cX6_readNumbers 91 = .ok (.invokevirtual 119, 3) := by decide +kernel
theorem dX6_readNumbers_94 : decode cX6_readNumbers 94 = .ok (.putfield 66, 3) := by decide +kernel
theorem dX6_readNumbers_97 : decode cX6_readNumbers 97 = .ok (.aload_n 0, 1) := by decide +kernel
theorem dX6_readNumbers_98 : decode cX6_readNumbers 98 = .ok (.aload_n 1, 1) := by decide +kernel
theorem dX6_readNumbers_99 : decode cX6_readNumbers 99 = .ok (.iconst 1, 1) := by decide +kernel
theorem dX6_readNumbers_100 : decode cX6_readNumbers 100 = .ok (.bipush 9, 2) := by decide +kernel
theorem dX6_readNumbers_102 : decode cX6_readNumbers 102 = .ok (.invokevirtual 119, 3) := by decide +kernel
theorem dX6_readNumbers_105 : decode cX6_readNumbers 105 = .ok (.putfield 69, 3) := by decide +kernel
theorem dX6_readNumbers_108 : decode cX6_readNumbers 108 = .ok (.goto 14, 3) := by decide +kernel
theorem dX6_readNumbers_111 : decode cX6_readNumbers 111 = .ok (.aload_n 0, 1) := by decide +kernel
theorem dX6_readNumbers_112 : decode cX6_readNumbers 112 = .ok (.aload_n 1, 1) := by decide +kernel
theorem dX6_readNumbers_113 : decode cX6_readNumbers 113 = .ok (.iconst 1, 1) := by decide +kernel
theorem dX6_readNumbers_114 : decode cX6_readNumbers 114 = .ok (.bipush 30, 2) := by decide +kernel
theorem dX6_readNumbers_116 : decode cX6_readNumbers 116 = .ok (.invokevirtual 119, 3) := by decide +kernel
theorem dX6_readNumbers_119 : decode cX6_readNumbers 119 = .ok (.putfield 72, 3) := by decide +kernel
theorem dX6_readNumbers_122 : decode cX6_readNumbers 122 = .ok (.return_, 1) := by decide +kernel
theorem dX6_readPane_0 : decode cX6_readPane 0 = .ok (.aload_n 1, 1) := by decide +kernel
theorem dX6_readPane_1 : decode cX6_readPane 1 = .ok (.iconst 1, 1) := by decide +kernel
theorem dX6_readPane_2 : decode cX6_readPane 2 = .ok (.iconst 4, 1) := by decide +kernel
theorem dX6_readPane_3 : decode cX6_readPane 3 = .ok (.invokevirtual 119, 3) := by decide +kernel
theorem dX6_readPane_6 : decode cX6_readPane 6 = .ok (.istore_n 2, 1) := by decide +kernel
theorem dX6_readPane_7 : decode cX6_readPane 7 = .ok (.aload_n 1, 1) := by decide +kernel
theorem dX6_readPane_8 : decode cX6_readPane 8 = .ok (.iconst 1, 1) := by decide +kernel
theorem dX6_readPane_9 : decode cX6_readPane 9 = .ok (.iconst 4, 1) := by decide +kernel
theorem dX6_readPane_10 : decode cX6_readPane 10 = .ok (.invokevirtual 119, 3) := by decide +kernel
theorem dX6_readPane_13 : decode cX6_readPane 13 = .ok (.istore_n 3, 1) := by decide +kernel
theorem dX6_readPane_14 : decode cX6_readPane 14 = .ok (.aload_n 0, 1) := by decide +kernel
theorem dX6_readPane_15 : decode cX6_readPane 15 = .ok (.getfield 9, 3) := by decide +kernel
theorem dX6_readPane_18 : decode cX6_readPane 18 = .ok (.aload_n 0, 1) := by decide +kernel
theorem dX6_readPane_19 : decode cX6_readPane 19 = .ok (.getfield 57, 3) := by decide +kernel
theorem dX6_readPane_22 : decode cX6_readPane 22 = .ok (.iload_n 2, 1) := by decide +kernel
theorem dX6_readPane_23 : decode cX6_readPane 23 = .ok (.iastore, 1) := by decide +kernel
theorem dX6_readPane_24 : decode cX6_readPane 24 = .ok (.aload_n 0, 1) := by decide +kernel
theorem dX6_readPane_25 : decode cX6_readPane 25 = .ok (.getfield 15, 3) := by decide +kernel
theorem dX6_readPane_28 : decode cX6_readPane 28 = .ok (.aload_n 0, 1) := by decide +kernel
theorem dX6_readPane_29 : decode cX6_readPane 29 = .ok (.getfield 57, 3) := by decide +kernel
theorem dX6_readPane_32 : decode cX6_readPane 32 = .ok (.iload_n 3, 1) := by decide +kernel
theorem dX6_readPane_33 : decode cX6_readPane 33 = .ok (.iastore, 1) := by decide +kernel
theorem dX6_readPane_34 : decode cX6_readPane 34 = .ok (.aload_n 0, 1) := by decide +kernel
theorem dX6_readPane_35 : decode cX6_readPane 35 = .ok (.getfield 18, 3) := by decide +kernel
theorem dX6_readPane_38 : decode cX6_readPane 38 = .ok (.aload_n 0, 1) := by decide +kernel
theorem dX6_readPane_39 : decode cX6_readPane 39 = .ok (.getfield 57, 3) := by decide +kernel
theorem dX6_readPane_42 : decode cX6_readPane 42 = .ok (.aload_n 1, 1) := by decide +kernel
theorem dX6_readPane_43 : decode cX6_readPane 43 = .ok (.iconst 0, 1) := by decide +kernel
theorem dX6_readPane_44 : decode cX6_readPane 44 = .ok (.bipush 60, 2) := by decide +kernel
theorem dX6_readPane_46 : decode cX6_readPane 46 = .ok (.invokevirtual 119, 3) := by decide +kernel
theorem dX6_readPane_49 : decode cX6_readPane 49 = .ok (.iastore, 1) := by decide +kernel
theorem dX6_readPane_50 : decode cX6_readPane 50 = .ok (.aload_n 0, 1) := by decide +kernel
theorem dX6_readPane_51 : decode cX6_readPane 51 = .ok (.getfield 21, 3) := by decide +kernel
theorem dX6_readPane_54 : decode cX6_readPane 54 = .ok (.aload_n 0, 1) := by decide +kernel
theorem dX6_readPane_55 : decode cX6_readPane 55 = .ok (.getfield 57, 3) := by decide +kernel
theorem dX6_readPane_58 : decode cX6_readPane 58 = .ok (.aload_n 1, 1) := by decide +kernel
theorem dX6_readPane_59 : decode cX6_readPane 59 = .ok (.iconst 0, 1) := by decide +kernel
theorem dX6_readPane_60 : decode cX6_readPane 60 = .ok (.bipush 9, 2) := by decide +kernel
theorem dX6_readPane_62 : decode cX6_readPane 62 = .ok (.invokevirtual 119, 3) := by decide +kernel
theorem dX6_readPane_65 : decode cX6_readPane 65 = .ok (.iastore, 1) := by decide +kernel
theorem dX6_readPane_66 : decode cX6_readPane 66 = .ok (.iconst 0, 1) := by decide +kernel
theorem dX6_readPane_67 : decode cX6_readPane 67 = .ok (.istore 4, 2) := by decide +kernel
theorem dX6_readPane_69 : decode cX6_readPane 69 = .ok (.iconst 0, 1) := by decide +kernel
theorem dX6_readPane_70 : decode cX6_readPane 70 = .ok (.istore 5, 2) := by decide +kernel
theorem dX6_readPane_72 : decode cX6_readPane 72 = .ok (.iload 5, 2) := by decide +kernel
theorem dX6_readPane_74 : decode cX6_readPane 74 = .ok (.iload_n 3, 1) := by decide +kernel
theorem dX6_readPane_75 : decode cX6_readPane 75 = .ok (.if_icmp .ge 24, 3) := by decide +kernel
theorem dX6_readPane_78 : decode cX6_readPane 78 = .ok (.iload 4, 2) := by decide +kernel
theorem dX6_readPane_80 : decode cX6_readPane 80 = .ok (.iconst 1, 1) := by decide +kernel
theorem dX6_readPane_81 : decode cX6_readPane 81 = .ok (.iload_n 2, 1) := by decide +kernel
theorem dX6_readPane_82 : decode cX6_readPane 82 = .ok (.ishl, 1) := by decide +kernel
theorem dX6_readPane_83 : decode cX6_readPane 83 = .ok (.iconst 1, 1) := by decide +kernel
theorem dX6_readPane_84 : decode cX6_readPane 84 = .ok (.isub, 1) := by decide +kernel
theorem dX6_readPane_85 : decode cX6_readPane 85 = .ok (.iconst 4, 1) := by decide +kernel
theorem dX6_readPane_86 : decode cX6_readPane 86 = .ok (.iload 5, 2) := by decide +kernel
theorem dX6_readPane_88 : decode cX6_readPane 88 = .ok (.imul, 1) := by decide +kernel
theorem dX6_readPane_89 : decode cX6_readPane 89 = .ok (.ishl, 1) := by decide +kernel
theorem dX6_readPane_90 : decode cX6_readPane 90 = .ok (.ior, 1) := by decide +kernel
theorem dX6_readPane_91 : decode cX6_readPane 91 = .ok (.istore 4, 2) := by decide +kernel
theorem dX6_readPane_93 : decode cX6_readPane 93 = .ok (.iinc 5 1, 3) := by decide +kernel
theorem dX6_readPane_96 : decode cX6_readPane 96 = .ok (.goto (-24), 3) := by decide +kernel
theorem dX6_readPane_99 : decode cX6_readPane 99 = .ok (.aload_n 0, 1) := by decide +kernel
theorem dX6_readPane_100 : decode cX6_readPane 100 = .ok (.getfield 24, 3) := by decide +kernel
theorem dX6_readPane_103 : decode cX6_readPane 103 = .ok (.aload_n 0, 1) := by decide +kernel
theorem dX6_readPane_104 : decode cX6_readPane 104 = .ok (.getfield 57, 3) := by decide +kernel
theorem dX6_readPane_107 : decode cX6_readPane 107 = .ok (.iload 4, 2) := by decide +kernel
theorem dX6_readPane_109 : decode cX6_readPane 109 = .ok (.iastore, 1) := by decide +kernel
theorem dX6_readPane_110 : decode cX6_readPane 110 = .ok (.aload_n 0, 1) := by decide +kernel
theorem dX6_readPane_111 : decode cX6_readPane 111 = .ok (.dup, 1) := by decide +kernel
theorem dX6_readPane_112 : decode cX6_readPane 112 = .ok (.getfield 57, 3) := by decide +kernel
theorem dX6_readPane_115 : decode cX6_readPane 115 = .ok (.iconst 1, 1) := by decide +kernel
theorem dX6_readPane_116 : decode cX6_readPane 116 = .ok (.iadd, 1) := by decide +kernel
theorem dX6_readPane_117 : decode cX6_readPane 117 = .ok (.putfield 57, 3) := by decide +kernel
theorem dX6_readPane_120 : decode cX6_readPane 120 = .ok (.return_, 1) := by decide +kernel
theorem dX6_readOrder_0 : decode cX6_readOrder 0 = .ok (.iconst 5, 1) := by decide +kernel
theorem dX6_readOrder_1 : decode cX6_readOrder 1 = .ok (.aload_n 0, 1) := by decide +kernel
theorem dX6_readOrder_2 : decode cX6_readOrder 2 = .ok (.getfield 63, 3) := by decide +kernel
theorem dX6_readOrder_5 : decode cX6_readOrder 5 = .ok (.imul, 1) := by decide +kernel
theorem dX6_readOrder_6 : decode cX6_readOrder 6 = .ok (.istore_n 2, 1) := by decide +kernel
theorem dX6_readOrder_7 : decode cX6_readOrder 7 = .ok (.aload_n 1, 1) := by decide +kernel
theorem dX6_readOrder_8 : decode cX6_readOrder 8 = .ok (.iconst 0, 1) := by decide +kernel
theorem dX6_readOrder_9 : decode cX6_readOrder 9 = .ok (.aload_n 0, 1) := by decide +kernel
theorem dX6_readOrder_10 : decode cX6_readOrder 10 = .ok (.getfield 57, 3) := by decide +kernel
theorem dX6_readOrder_13 : decode cX6_readOrder 13 = .ok (.iconst 1, 1) := by decide +kernel
theorem dX6_readOrder_14 : decode cX6_readOrder 14 = .ok (.isub, 1) := by decide +kernel
theorem dX6_readOrder_15 : decode cX6_readOrder 15 = .ok (.invokevirtual 119, 3) := by decide +kernel
theorem dX6_readOrder_18 : decode cX6_readOrder 18 = .ok (.istore_n 3, 1) := by decide +kernel
theorem dX6_readOrder_19 : decode cX6_readOrder 19 = .ok (.aload_n 0, 1) := by decide +kernel
theorem dX6_readOrder_20 : decode cX6_readOrder 20 = .ok (.getfield 30, 3) := by decide +kernel
theorem dX6_readOrder_23 : decode cX6_readOrder 23 = .ok (.iload_n 2, 1) := by decide +kernel
theorem dX6_readOrder_24 : decode cX6_readOrder 24 = .ok (.iconst 0, 1) := by decide +kernel
theorem dX6_readOrder_25 : decode cX6_readOrder 25 = .ok (.iadd, 1) := by decide +kernel
theorem dX6_readOrder_26 : decode cX6_readOrder 26 = .ok (.iload_n 3, 1) := by decide +kernel
theorem dX6_readOrder_27 : decode cX6_readOrder 27 = .ok (.iastore, 1) := by decide +kernel
theorem dX6_readOrder_28 : decode cX6_readOrder 28 = .ok (.aload_n 0, 1) := by decide +kernel
theorem dX6_readOrder_29 : decode cX6_readOrder 29 = .ok (.getfield 30, 3) := by decide +kernel
theorem dX6_readOrder_32 : decode cX6_readOrder 32 = .ok (.iload_n 2, 1) := by decide +kernel
theorem dX6_readOrder_33 : decode cX6_readOrder 33 = .ok (.iconst 1, 1) := by decide +kernel
theorem dX6_readOrder_34 : decode cX6_readOrder 34 = .ok (.iadd, 1) := by decide +kernel
theorem dX6_readOrder_35 : decode cX6_readOrder 35 = .ok (.aload_n 1, 1) := by decide +kernel
theorem dX6_readOrder_36 : decode cX6_readOrder 36 = .ok (.iconst 0, 1) := by decide +kernel
theorem dX6_readOrder_37 : decode cX6_readOrder 37 = .ok (.aload_n 0, 1) := by decide +kernel
theorem dX6_readOrder_38 : decode cX6_readOrder 38 = .ok (.getfield 9, 3) := by decide +kernel
theorem dX6_readOrder_41 : decode cX6_readOrder 41 = .ok (.iload_n 3, 1) := by decide +kernel
theorem dX6_readOrder_42 : decode cX6_readOrder 42 = .ok (.iaload, 1) := by decide +kernel
theorem dX6_readOrder_43 : decode cX6_readOrder 43 = .ok (.iconst 1, 1) := by decide +kernel
theorem dX6_readOrder_44 : decode cX6_readOrder 44 = .ok (.isub, 1) := by decide +kernel
theorem dX6_readOrder_45 : decode cX6_readOrder 45 = .ok (.invokevirtual 119, 3) := by decide +kernel
theorem dX6_readOrder_48 : decode cX6_readOrder 48 = .ok (.iastore, 1) := by decide +kernel
theorem dX6_readOrder_49 : decode cX6_readOrder 49 = .ok (.aload_n 0, 1) := by decide +kernel
theorem dX6_readOrder_50 : decode cX6_readOrder 50 = .ok (.getfield 30, 3) := by decide +kernel
theorem dX6_readOrder_53 : decode cX6_readOrder 53 = .ok (.iload_n 2, 1) := by decide +kernel
theorem dX6_readOrder_54 : decode cX6_readOrder 54 = .ok (.iconst 2, 1) := by decide +kernel
theorem dX6_readOrder_55 : decode cX6_readOrder 55 = .ok (.iadd, 1) := by decide +kernel
theorem dX6_readOrder_56 : decode cX6_readOrder 56 = .ok (.aload_n 1, 1) := by decide +kernel
theorem dX6_readOrder_57 : decode cX6_readOrder 57 = .ok (.iconst 0, 1) := by decide +kernel
theorem dX6_readOrder_58 : decode cX6_readOrder 58 = .ok (.aload_n 0, 1) := by decide +kernel
theorem dX6_readOrder_59 : decode cX6_readOrder 59 = .ok (.getfield 15, 3) := by decide +kernel
theorem dX6_readOrder_62 : decode cX6_readOrder 62 = .ok (.iload_n 3, 1) := by decide +kernel
theorem dX6_readOrder_63 : decode cX6_readOrder 63 = .ok (.iaload, 1) := by decide +kernel
theorem dX6_readOrder_64 : decode cX6_readOrder 64 = .ok (.iconst 1, 1) := by decide +kernel
theorem dX6_readOrder_65 : decode cX6_readOrder 65 = .ok (.isub, 1) := by decide +kernel
theorem dX6_readOrder_66 : decode cX6_readOrder 66 = .ok (.invokevirtual 119, 3) := by decide +kernel
theorem dX6_readOrder_69 : decode cX6_readOrder 69 = .ok (.iastore, 1) := by decide +kernel
theorem dX6_readOrder_70 : decode cX6_readOrder 70 = .ok (.aload_n 1, 1) := by decide +kernel
theorem dX6_readOrder_71 : decode cX6_readOrder 71 = .ok (.iconst 1, 1) := by decide +kernel
theorem dX6_readOrder_72 : decode cX6_readOrder 72 = .ok (.sipush 200, 3) := by decide +kernel
theorem dX6_readOrder_75 : decode cX6_readOrder 75 = .ok (.invokevirtual 119, 3) := by decide +kernel
theorem dX6_readOrder_78 : decode cX6_readOrder 78 = .ok (.istore 4, 2) := by decide +kernel
theorem dX6_readOrder_80 : decode cX6_readOrder 80 = .ok (.aload_n 0, 1) := by decide +kernel
theorem dX6_readOrder_81 : decode cX6_readOrder 81 = .ok (.getfield 30, 3) := by decide +kernel
theorem dX6_readOrder_84 : decode cX6_readOrder 84 = .ok (.iload_n 2, 1) := by decide +kernel
theorem dX6_readOrder_85 : decode cX6_readOrder 85 = .ok (.iconst 3, 1) := by decide +kernel
theorem dX6_readOrder_86 : decode cX6_readOrder 86 = .ok (.iadd, 1) := by decide +kernel
theorem dX6_readOrder_87 : decode cX6_readOrder 87 = .ok (.iload 4, 2) := by decide +kernel
theorem dX6_readOrder_89 : decode cX6_readOrder 89 = .ok (.iastore, 1) := by decide +kernel
theorem dX6_readOrder_90 : decode cX6_readOrder 90 = .ok (.aload_n 0, 1) := by decide +kernel
theorem dX6_readOrder_91 : decode cX6_readOrder 91 = .ok (.getfield 30, 3) := by decide +kernel
theorem dX6_readOrder_94 : decode cX6_readOrder 94 = .ok (.iload_n 2, 1) := by decide +kernel
theorem dX6_readOrder_95 : decode cX6_readOrder 95 = .ok (.iconst 4, 1) := by decide +kernel
theorem dX6_readOrder_96 : decode cX6_readOrder 96 = .ok (.iadd, 1) := by decide +kernel
theorem dX6_readOrder_97 : decode cX6_readOrder 97 = .ok (.aload_n 1, 1) := by decide +kernel
theorem dX6_readOrder_98 : decode cX6_readOrder 98 = .ok (.iload 4, 2) := by decide +kernel
theorem dX6_readOrder_100 : decode cX6_readOrder 100 = .ok (.sipush 200, 3) := by decide +kernel
theorem dX6_readOrder_103 : decode cX6_readOrder 103 = .ok (.invokevirtual 119, 3) := by decide +kernel
theorem dX6_readOrder_106 : decode cX6_readOrder 106 = .ok (.iastore, 1) := by decide +kernel
theorem dX6_readOrder_107 : decode cX6_readOrder 107 = .ok (.aload_n 0, 1) := by decide +kernel
theorem dX6_readOrder_108 : decode cX6_readOrder 108 = .ok (.dup, 1) := by decide +kernel
theorem dX6_readOrder_109 : decode cX6_readOrder 109 = .ok (.getfield 63, 3) := by decide +kernel
theorem dX6_readOrder_112 : decode cX6_readOrder 112 = .ok (.iconst 1, 1) := by decide +kernel
theorem dX6_readOrder_113 : decode cX6_readOrder 113 = .ok (.iadd, 1) := by decide +kernel
theorem dX6_readOrder_114 : decode cX6_readOrder 114 = .ok (.putfield 63, 3) := by decide +kernel
theorem dX6_readOrder_117 : decode cX6_readOrder 117 = .ok (.return_, 1) := by decide +kernel
theorem dX7_init_0 : decode cX7_init 0 = .ok (.aload_n 0, 1) := by decide +kernel
theorem dX7_init_1 : decode cX7_init 1 = .ok (.invokespecial 3, 3) := by decide +kernel
theorem dX7_init_4 : decode cX7_init 4 = .ok (.aload_n 0, 1) := by decide +kernel
theorem dX7_init_5 : decode cX7_init 5 = .ok (.sipush 600, 3) := by decide +kernel
theorem dX7_init_8 : decode cX7_init 8 = .ok (.newarray .byte, 2) := by decide +kernel
theorem dX7_init_10 : decode cX7_init 10 = .ok (.putfield 11, 3) := by decide +kernel
theorem dX7_init_13 : decode cX7_init 13 = .ok (.aload_n 0, 1) := by decide +kernel
theorem dX7_init_14 : decode cX7_init 14 = .ok (.iconst (-1), 1) := by decide +kernel
theorem dX7_init_15 : decode cX7_init 15 = .ok (.putfield 15, 3) := by decide +kernel
theorem dX7_init_18 : decode cX7_init 18 = .ok (.return_, 1) := by decide +kernel
theorem dX7_hasRoom_0 : decode cX7_hasRoom 0 = .ok (.aload_n 0, 1) := by decide +kernel
theorem dX7_hasRoom_1 : decode cX7_hasRoom 1 = .ok (.getfield 19, 3) := by decide +kernel
theorem dX7_hasRoom_4 : decode cX7_hasRoom 4 = .ok (.bipush 20, 2) := by decide +kernel
theorem dX7_hasRoom_6 : decode cX7_hasRoom 6 = .ok (.iadd, 1) := by decide +kernel
theorem dX7_hasRoom_7 : decode cX7_hasRoom 7 = .ok (.sipush 600, 3) := by decide +kernel
theorem dX7_hasRoom_10 : decode cX7_hasRoom 10 = .ok (.if_icmp .gt 7, 3) := by decide +kernel
theorem dX7_hasRoom_13 : decode cX7_hasRoom 13 = .ok (.iconst 1, 1) := by decide +kernel
theorem dX7_hasRoom_14 : decode cX7_hasRoom 14 = .ok (.goto 4, 3) := by decide +kernel
theorem dX7_hasRoom_17 : decode cX7_hasRoom 17 = .ok (.iconst 0, 1) := by decide +kernel
theorem dX7_hasRoom_18 : decode cX7_hasRoom 18 = .ok (.ireturn, 1) := by decide +kernel
theorem dX7_put_0 : decode cX7_put 0 = .ok (.bipush 24, 2) := by decide +kernel
theorem dX7_put_2 : decode cX7_put 2 = .ok (.istore_n 2, 1) := by decide +kernel
theorem dX7_put_3 : decode cX7_put 3 = .ok (.iload_n 2, 1) := by decide +kernel
theorem dX7_put_4 : decode cX7_put 4 = .ok (.ifCond .lt 42, 3) := by decide +kernel
theorem dX7_put_7 : decode cX7_put 7 = .ok (.aload_n 0, 1) := by decide +kernel
theorem dX7_put_8 : decode cX7_put 8 = .ok (.getfield 19, 3) := by decide +kernel
theorem dX7_put_11 : decode cX7_put 11 = .ok (.sipush 600, 3) := by decide +kernel
theorem dX7_put_14 : decode cX7_put 14 = .ok (.if_icmp .ge 32, 3) := by decide +kernel
theorem dX7_put_17 : decode cX7_put 17 = .ok (.aload_n 0, 1) := by decide +kernel
theorem dX7_put_18 : decode cX7_put 18 = .ok (.getfield 11, 3) := by decide +kernel
theorem dX7_put_21 : decode cX7_put 21 = .ok (.aload_n 0, 1) := by decide +kernel
theorem dX7_put_22 : decode cX7_put 22 = .ok (.getfield 19, 3) := by decide +kernel
theorem dX7_put_25 : decode cX7_put 25 = .ok (.iload_n 1, 1) := by decide +kernel
theorem dX7_put_26 : decode cX7_put 26 = .ok (.iload_n 2, 1) := by decide +kernel
theorem dX7_put_27 : decode cX7_put 27 = .ok (.ishr, 1) := by decide +kernel
theorem dX7_put_28 : decode cX7_put 28 = .ok (.i2b, 1) := by decide +kernel
theorem dX7_put_29 : decode cX7_put 29 = .ok (.bastore, 1) := by decide +kernel
theorem dX7_put_30 : decode cX7_put 30 = .ok (.aload_n 0, 1) := by decide +kernel
theorem dX7_put_31 : decode cX7_put 31 = .ok (.dup, 1) := by decide +kernel
theorem dX7_put_32 : decode cX7_put 32 = .ok (.getfield 19, 3) := by decide +kernel
theorem dX7_put_35 : decode cX7_put 35 = .ok (.iconst 1, 1) := by decide +kernel
theorem dX7_put_36 : decode cX7_put 36 = .ok (.iadd, 1) := by decide +kernel
theorem dX7_put_37 : decode cX7_put 37 = .ok (.putfield 19, 3) := by decide +kernel
theorem dX7_put_40 : decode cX7_put 40 = .ok (.iinc 2 (-8), 3) := by decide +kernel
theorem dX7_put_43 : decode cX7_put 43 = .ok (.goto (-40), 3) := by decide +kernel
theorem dX7_put_46 : decode cX7_put 46 = .ok (.return_, 1) := by decide +kernel
theorem dX7_begin_0 : decode cX7_begin 0 = .ok (.aload_n 0, 1) := by decide +kernel
theorem dX7_begin_1 : decode cX7_begin 1 = .ok (.iload_n 1, 1) := by decide +kernel
theorem dX7_begin_2 : decode cX7_begin 2 = .ok (.putfield 22, 3) := by decide +kernel
theorem dX7_begin_5 : decode cX7_begin 5 = .ok (.aload_n 0, 1) := by decide +kernel
theorem dX7_begin_6 : decode cX7_begin 6 = .ok (.iconst 0, 1) := by decide +kernel
theorem dX7_begin_7 : decode cX7_begin 7 = .ok (.putfield 25, 3) := by decide +kernel
theorem dX7_begin_10 : decode cX7_begin 10 = .ok (.aload_n 0, 1) := by decide +kernel
theorem dX7_begin_11 : decode cX7_begin 11 = .ok (.iconst 0, 1) := by decide +kernel
theorem dX7_begin_12 : decode cX7_begin 12 = .ok (.putfield 28, 3) := by decide +kernel
theorem dX7_begin_15 : decode cX7_begin 15 = .ok (.aload_n 0, 1) := by decide +kernel
theorem dX7_begin_16 : decode cX7_begin 16 = .ok (.iconst (-1), 1) := by decide +kernel
theorem dX7_begin_17 : decode cX7_begin 17 = .ok (.putfield 15, 3) := by decide +kernel
theorem dX7_begin_20 : decode cX7_begin 20 = .ok (.aload_n 0, 1) := by decide +kernel
theorem dX7_begin_21 : decode cX7_begin 21 = .ok (.invokevirtual 31, 3) := by decide +kernel
theorem dX7_begin_24 : decode cX7_begin 24 = .ok (.return_, 1) := by decide +kernel
theorem dX7_wrong_0 : decode cX7_wrong 0 = .ok (.aload_n 0, 1) := by decide +kernel
theorem dX7_wrong_1 : decode cX7_wrong 1 = .ok (.getfield 28, 3) := by decide +kernel
theorem dX7_wrong_4 : decode cX7_wrong 4 = .ok (.ifCond .ne 21, 3) := by decide +kernel
theorem dX7_wrong_7 : decode cX7_wrong 7 = .ok (.aload_n 0, 1) := by decide +kernel
theorem dX7_wrong_8 : decode cX7_wrong 8 = .ok (.iload_n 1, 1) := by decide +kernel
theorem dX7_wrong_9 : decode cX7_wrong 9 = .ok (.putfield 28, 3) := by decide +kernel
theorem dX7_wrong_12 : decode cX7_wrong 12 = .ok (.aload_n 0, 1) := by decide +kernel
theorem dX7_wrong_13 : decode cX7_wrong 13 = .ok (.aload_n 0, 1) := by decide +kernel
theorem dX7_wrong_14 : decode cX7_wrong 14 = .ok (.getfield 34, 3) := by decide +kernel
theorem dX7_wrong_17 : decode cX7_wrong 17 = .ok (.putfield 15, 3) := by decide +kernel
theorem dX7_wrong_20 : decode cX7_wrong 20 = .ok (.aload_n 0, 1) := by decide +kernel
theorem dX7_wrong_21 : decode cX7_wrong 21 = .ok (.iconst 4, 1) := by decide +kernel
theorem dX7_wrong_22 : decode cX7_wrong 22 = .ok (.putfield 37, 3) := by decide +kernel
theorem dX7_wrong_25 : decode cX7_wrong 25 = .ok (.return_, 1) := by decide +kernel
theorem dX7_step_0 : decode cX7_step 0 = .ok (.aload_n 0, 1) := by decide +kernel
theorem dX7_step_1 : decode cX7_step 1 = .ok (.getfield 28, 3) := by decide +kernel
theorem dX7_step_4 : decode cX7_step 4 = .ok (.ifCond .eq 4, 3) := by decide +kernel
theorem dX7_step_7 : decode cX7_step 7 = .ok (.return_, 1) := by decide +kernel
theorem dX7_step_8 : decode cX7_step 8 = .ok (.aload_n 0, 1) := by decide +kernel
theorem dX7_step_9 : decode cX7_step 9 = .ok (.aload_n 0, 1) := by decide +kernel
theorem dX7_step_10 : decode cX7_step 10 = .ok (.getfield 25, 3) := by decide +kernel
theorem dX7_step_13 : decode cX7_step 13 = .ok (.putfield 34, 3) := by decide +kernel
theorem dX7_step_16 : decode cX7_step 16 = .ok (.aload_n 0, 1) := by decide +kernel
theorem dX7_step_17 : decode cX7_step 17 = .ok (.getfield 34, 3) := by decide +kernel
theorem dX7_step_20 : decode cX7_step 20 = .ok (.aload_n 0, 1) := by decide +kernel
theorem dX7_step_21 : decode cX7_step 21 = .ok (.getfield 22, 3) := by decide +kernel
theorem dX7_step_24 : decode cX7_step 24 = .ok (.if_icmp .ge 30, 3) := by decide +kernel
theorem dX7_step_27 : decode cX7_step 27 = .ok (.aload_n 0, 1) := by decide +kernel
theorem dX7_step_28 : decode cX7_step 28 = .ok (.getfield 11, 3) := by decide +kernel
theorem dX7_step_31 : decode cX7_step 31 = .ok (.aload_n 0, 1) := by decide +kernel
theorem dX7_step_32 : decode cX7_step 32 = .ok (.getfield 34, 3) := by decide +kernel
theorem dX7_step_35 : decode cX7_step 35 = .ok (.baload, 1) := by decide +kernel
theorem dX7_step_36 : decode cX7_step 36 = .ok (.bipush 32, 2) := by decide +kernel
theorem dX7_step_38 : decode cX7_step 38 = .ok (.if_icmp .ne 16, 3) := by decide +kernel
theorem dX7_step_41 : decode cX7_step 41 = .ok (.aload_n 0, 1) := by decide +kernel
theorem dX7_step_42 : decode cX7_step 42 = .ok (.dup, 1) := by decide +kernel
theorem dX7_step_43 : decode cX7_step 43 = .ok (.getfield 34, 3) := by decide +kernel
theorem dX7_step_46 : decode cX7_step 46 = .ok (.iconst 1, 1) := by decide +kernel
theorem dX7_step_47 : decode cX7_step 47 = .ok (.iadd, 1) := by decide +kernel
theorem dX7_step_48 : decode cX7_step 48 = .ok (.putfield 34, 3) := by decide +kernel
theorem dX7_step_51 : decode cX7_step 51 = .ok (.goto (-35), 3) := by decide +kernel
theorem dX7_step_54 : decode cX7_step 54 = .ok (.aload_n 0, 1) := by decide +kernel
theorem dX7_step_55 : decode cX7_step 55 = .ok (.aload_n 0, 1) := by decide +kernel
theorem dX7_step_56 : decode cX7_step 56 = .ok (.getfield 34, 3) := by decide +kernel
theorem dX7_step_59 : decode cX7_step 59 = .ok (.putfield 25, 3) := by decide +kernel
theorem dX7_step_62 : decode cX7_step 62 = .ok (.aload_n 0, 1) := by decide +kernel
theorem dX7_step_63 : decode cX7_step 63 = .ok (.iconst 0, 1) := by decide +kernel
theorem dX7_step_64 : decode cX7_step 64 = .ok (.putfield 40, 3) := by decide +kernel
theorem dX7_step_67 : decode cX7_step 67 = .ok (.aload_n 0, 1) := by decide +kernel
theorem dX7_step_68 : decode cX7_step 68 = .ok (.getfield 25, 3) := by decide +kernel
theorem dX7_step_71 : decode cX7_step 71 = .ok (.aload_n 0, 1) := by decide +kernel
theorem dX7_step_72 : decode cX7_step 72 = .ok (.getfield 22, 3) := by decide +kernel
theorem dX7_step_75 : decode cX7_step 75 = .ok (.if_icmp .ge 82, 3) := by decide +kernel
theorem dX7_step_78 : decode cX7_step 78 = .ok (.aload_n 0, 1) := by decide +kernel
theorem dX7_step_79 : decode cX7_step 79 = .ok (.getfield 11, 3) := by decide +kernel
theorem dX7_step_82 : decode cX7_step 82 = .ok (.aload_n 0, 1) := by decide +kernel
theorem dX7_step_83 : decode cX7_step 83 = .ok (.getfield 25, 3) := by decide +kernel
theorem dX7_step_86 : decode cX7_step 86 = .ok (.baload, 1) := by decide +kernel
theorem dX7_step_87 : decode cX7_step 87 = .ok (.bipush 48, 2) := by decide +kernel
theorem dX7_step_89 : decode cX7_step 89 = .ok (.if_icmp .lt 68, 3) := by decide +kernel
theorem dX7_step_92 : decode cX7_step 92 = .ok (.aload_n 0, 1) := by decide +kernel
theorem dX7_step_93 : decode cX7_step 93 = .ok (.getfield 11, 3) := by decide +kernel
theorem dX7_step_96 : decode cX7_step 96 = .ok (.aload_n 0, 1) := by decide +kernel
theorem dX7_step_97 : decode cX7_step 97 = .ok (.getfield 25, 3) := by decide +kernel
theorem dX7_step_100 : decode cX7_step 100 = .ok (.baload, 1) := by decide +kernel
theorem dX7_step_101 : decode cX7_step 101 = .ok (.bipush 57, 2) := by decide +kernel
theorem dX7_step_103 : decode cX7_step 103 = .ok (.if_icmp .gt 54, 3) := by decide +kernel
theorem dX7_step_106 : decode cX7_step 106 = .ok (.aload_n 0, 1) := by decide +kernel
theorem dX7_step_107 : decode cX7_step 107 = .ok (.aload_n 0, 1) := by decide +kernel
theorem dX7_step_108 : decode cX7_step 108 = .ok (.getfield 40, 3) := by decide +kernel
theorem dX7_step_111 : decode cX7_step 111 = .ok (.ldc 43, 2) := by decide +kernel
theorem dX7_step_113 : decode cX7_step 113 = .ok (.if_icmp .lt 8, 3) := by decide +kernel
theorem dX7_step_116 : decode cX7_step 116 = .ok (.ldc 43, 2) := by decide +kernel
theorem dX7_step_118 : decode cX7_step 118 = .ok (.goto 23, 3) := by decide +kernel
theorem dX7_step_121 : decode cX7_step 121 = .ok (.bipush 10, 2) := by decide +kernel
theorem dX7_step_123 : decode cX7_step 123 = .ok (.aload_n 0, 1) := by decide +kernel
theorem dX7_step_124 : decode cX7_step 124 = .ok (.getfield 40, 3) := by decide +kernel
theorem dX7_step_127 : decode cX7_step 127 = .ok (.imul, 1) := by decide +kernel
theorem dX7_step_128 : decode cX7_step 128 = .ok (.aload_n 0, 1) := by decide +kernel
theorem dX7_step_129 : decode cX7_step 129 = .ok (.getfield 11, 3) := by decide +kernel
theorem dX7_step_132 : decode cX7_step 132 = .ok (.aload_n 0, 1) := by decide +kernel
theorem dX7_step_133 : decode cX7_step 133 = .ok (.getfield 25, 3) := by decide +kernel
theorem dX7_step_136 : decode cX7_step 136 = .ok (.baload, 1) := by decide +kernel
theorem dX7_step_137 : decode cX7_step 137 = .ok (.iadd, 1) := by decide +kernel
theorem dX7_step_138 : decode cX7_step 138 = .ok (.bipush 48, 2) := by decide +kernel
theorem dX7_step_140 : decode cX7_step 140 = .ok (.isub, 1) := by decide +kernel
theorem dX7_step_141 : decode cX7_step 141 = .ok (.putfield 40, 3) := by decide +kernel
theorem dX7_step_144 : decode cX7_step 144 = .ok (.aload_n 0, 1) := by decide +kernel
theorem dX7_step_145 : decode cX7_step 145 = .ok (.dup, 1) := by decide +kernel
theorem dX7_step_146 : decode cX7_step 146 = .ok (.getfield 25, 3) := by decide +kernel
theorem dX7_step_149 : decode cX7_step 149 = .ok (.iconst 1, 1) := by decide +kernel
theorem dX7_step_150 : decode cX7_step 150 = .ok (.iadd, 1) := by decide +kernel
theorem dX7_step_151 : decode cX7_step 151 = .ok (.putfield 25, 3) := by decide +kernel
theorem dX7_step_154 : decode cX7_step 154 = .ok (.goto (-87), 3) := by decide +kernel
theorem dX7_step_157 : decode cX7_step 157 = .ok (.aload_n 0, 1) := by decide +kernel
theorem dX7_step_158 : decode cX7_step 158 = .ok (.getfield 25, 3) := by decide +kernel
theorem dX7_step_161 : decode cX7_step 161 = .ok (.aload_n 0, 1) := by decide +kernel
theorem dX7_step_162 : decode cX7_step 162 = .ok (.getfield 34, 3) := by decide +kernel
theorem dX7_step_165 : decode cX7_step 165 = .ok (.if_icmp .gt 14, 3) := by decide +kernel
theorem dX7_step_168 : decode cX7_step 168 = .ok (.aload_n 0, 1) := by decide +kernel
theorem dX7_step_169 : decode cX7_step 169 = .ok (.getfield 34, 3) := by decide +kernel
theorem dX7_step_172 : decode cX7_step 172 = .ok (.aload_n 0, 1) := by decide +kernel
theorem dX7_step_173 : decode cX7_step 173 = .ok (.getfield 22, 3) := by decide +kernel
theorem dX7_step_176 : decode cX7_step 176 = .ok (.if_icmp .lt 24, 3) := by decide +kernel
theorem dX7_step_179 : decode cX7_step 179 = .ok (.aload_n 0, 1) := by decide +kernel
theorem dX7_step_180 : decode cX7_step 180 = .ok (.aload_n 0, 1) := by decide +kernel
theorem dX7_step_181 : decode cX7_step 181 = .ok (.getfield 25, 3) := by decide +kernel
theorem dX7_step_184 : decode cX7_step 184 = .ok (.aload_n 0, 1) := by decide +kernel
theorem dX7_step_185 : decode cX7_step 185 = .ok (.getfield 34, 3) := by decide +kernel
theorem dX7_step_188 : decode cX7_step 188 = .ok (.if_icmp .le 7, 3) := by decide +kernel
theorem dX7_step_191 : decode cX7_step 191 = .ok (.iconst 1, 1) := by decide +kernel
theorem dX7_step_192 : decode cX7_step 192 = .ok (.goto 4, 3) := by decide +kernel
theorem dX7_step_195 : decode cX7_step 195 = .ok (.iconst 0, 1) := by decide +kernel
theorem dX7_step_196 : decode cX7_step 196 = .ok (.putfield 37, 3) := by decide +kernel
theorem dX7_step_199 : decode cX7_step 199 = .ok (.return_, 1) := by decide +kernel
theorem dX7_step_200 : decode cX7_step 200 = .ok (.aload_n 0, 1) := by decide +kernel
theorem dX7_step_201 : decode cX7_step 201 = .ok (.getfield 25, 3) := by decide +kernel
theorem dX7_step_204 : decode cX7_step 204 = .ok (.aload_n 0, 1) := by decide +kernel
theorem dX7_step_205 : decode cX7_step 205 = .ok (.getfield 22, 3) := by decide +kernel
theorem dX7_step_208 : decode cX7_step 208 = .ok (.if_icmp .ge 44, 3) := by decide +kernel
theorem dX7_step_211 : decode cX7_step 211 = .ok (.aload_n 0, 1) := by decide +kernel
theorem dX7_step_212 : decode cX7_step 212 = .ok (.getfield 11, 3) := by decide +kernel
theorem dX7_step_215 : decode cX7_step 215 = .ok (.aload_n 0, 1) := by decide +kernel
theorem dX7_step_216 : decode cX7_step 216 = .ok (.getfield 25, 3) := by decide +kernel
theorem dX7_step_219 : decode cX7_step 219 = .ok (.baload, 1) := by decide +kernel
theorem dX7_step_220 : decode cX7_step 220 = .ok (.bipush 97, 2) := by decide +kernel
theorem dX7_step_222 : decode cX7_step 222 = .ok (.if_icmp .lt 30, 3) := by decide +kernel
theorem dX7_step_225 : decode cX7_step 225 = .ok (.aload_n 0, 1) := by decide +kernel
theorem dX7_step_226 : decode cX7_step 226 = .ok (.getfield 11, 3) := by decide +kernel
theorem dX7_step_229 : decode cX7_step 229 = .ok (.aload_n 0, 1) := by decide +kernel
theorem dX7_step_230 : decode cX7_step 230 = .ok (.getfield 25, 3) := by decide +kernel
theorem dX7_step_233 : decode cX7_step 233 = .ok (.baload, 1) := by decide +kernel
theorem dX7_step_234 : decode cX7_step 234 = .ok (.bipush 122, 2) := by decide +kernel
theorem dX7_step_236 : decode cX7_step 236 = .ok (.if_icmp .gt 16, 3) := by decide +kernel
theorem dX7_step_239 : decode cX7_step 239 = .ok (.aload_n 0, 1) := by decide +kernel
theorem dX7_step_240 : decode cX7_step 240 = .ok (.dup, 1) := by decide +kernel
theorem dX7_step_241 : decode cX7_step 241 = .ok (.getfield 25, 3) := by decide +kernel
theorem dX7_step_244 : decode cX7_step 244 = .ok (.iconst 1, 1) := by decide +kernel
theorem dX7_step_245 : decode cX7_step 245 = .ok (.iadd, 1) := by decide +kernel
theorem dX7_step_246 : decode cX7_step 246 = .ok (.putfield 25, 3) := by decide +kernel
theorem dX7_step_249 : decode cX7_step 249 = .ok (.goto (-49), 3) := by decide +kernel
theorem dX7_step_252 : decode cX7_step 252 = .ok (.aload_n 0, 1) := by decide +kernel
theorem dX7_step_253 : decode cX7_step 253 = .ok (.aload_n 0, 1) := by decide +kernel
theorem dX7_step_254 : decode cX7_step 254 = .ok (.getfield 25, 3) := by decide +kernel
theorem dX7_step_257 : decode cX7_step 257 = .ok (.aload_n 0, 1) := by decide +kernel
theorem dX7_step_258 : decode cX7_step 258 = .ok (.getfield 34, 3) := by decide +kernel
theorem dX7_step_261 : decode cX7_step 261 = .ok (.if_icmp .le 7, 3) := by decide +kernel
theorem dX7_step_264 : decode cX7_step 264 = .ok (.iconst 2, 1) := by decide +kernel
theorem dX7_step_265 : decode cX7_step 265 = .ok (.goto 4, 3) := by decide +kernel
theorem dX7_step_268 : decode cX7_step 268 = .ok (.iconst 3, 1) := by decide +kernel
theorem dX7_step_269 : decode cX7_step 269 = .ok (.putfield 37, 3) := by decide +kernel
theorem dX7_step_272 : decode cX7_step 272 = .ok (.aload_n 0, 1) := by decide +kernel
theorem dX7_step_273 : decode cX7_step 273 = .ok (.aload_n 0, 1) := by decide +kernel
theorem dX7_step_274 : decode cX7_step 274 = .ok (.getfield 25, 3) := by decide +kernel
theorem dX7_step_277 : decode cX7_step 277 = .ok (.aload_n 0, 1) := by decide +kernel
theorem dX7_step_278 : decode cX7_step 278 = .ok (.getfield 34, 3) := by decide +kernel
theorem dX7_step_281 : decode cX7_step 281 = .ok (.iconst 1, 1) := by decide +kernel
theorem dX7_step_282 : decode cX7_step 282 = .ok (.iadd, 1) := by decide +kernel
theorem dX7_step_283 : decode cX7_step 283 = .ok (.invokestatic 44, 3) := by decide +kernel
theorem dX7_step_286 : decode cX7_step 286 = .ok (.putfield 25, 3) := by decide +kernel
theorem dX7_step_289 : decode cX7_step 289 = .ok (.return_, 1) := by decide +kernel
theorem dX7_isWord_0 : decode cX7_isWord 0 = .ok (.aload_n 0, 1) := by decide +kernel
theorem dX7_isWord_1 : decode cX7_isWord 1 = .ok (.getfield 37, 3) := by decide +kernel
theorem dX7_isWord_4 : decode cX7_isWord 4 = .ok (.iconst 2, 1) := by decide +kernel
theorem dX7_isWord_5 : decode cX7_isWord 5 = .ok (.if_icmp .ne 19, 3) := by decide +kernel
theorem dX7_isWord_8 : decode cX7_isWord 8 = .ok (.aload_n 0, 1) := by decide +kernel
theorem dX7_isWord_9 : decode cX7_isWord 9 = .ok (.getfield 25, 3) := by decide +kernel
theorem dX7_isWord_12 : decode cX7_isWord 12 = .ok (.aload_n 0, 1) := by decide +kernel
theorem dX7_isWord_13 : decode cX7_isWord 13 = .ok (.getfield 34, 3) := by decide +kernel
theorem dX7_isWord_16 : decode cX7_isWord 16 = .ok (.isub, 1) := by decide +kernel
theorem dX7_isWord_17 : decode cX7_isWord 17 = .ok (.aload_n 1, 1) := by decide +kernel
theorem dX7_isWord_18 : decode cX7_isWord 18 = .ok (.invokevirtual 50, 3) := by decide +kernel
theorem dX7_isWord_21 : decode cX7_isWord 21 = .ok (.if_icmp .eq 5, 3) := by decide +kernel
theorem dX7_isWord_24 : decode cX7_isWord 24 = .ok (.iconst 0, 1) := by decide +kernel
theorem dX7_isWord_25 : decode cX7_isWord 25 = .ok (.ireturn, 1) := by decide +kernel
theorem dX7_isWord_26 : decode cX7_isWord 26 = .ok (.iconst 0, 1) := by decide +kernel
theorem dX7_isWord_27 : decode cX7_isWord 27 = .ok (.istore_n 2, 1) := by decide +kernel
theorem dX7_isWord_28 : decode cX7_isWord 28 = .ok (.iload_n 2, 1) := by decide +kernel
theorem dX7_isWord_29 : decode cX7_isWord 29 = .ok (.aload_n 1, 1) := by decide +kernel
theorem dX7_isWord_30 : decode cX7_isWord 30 = .ok (.invokevirtual 50, 3) := by decide +kernel
theorem dX7_isWord_33 : decode cX7_isWord 33 = .ok (.if_icmp .ge 30, 3) := by decide +kernel
theorem dX7_isWord_36 : decode cX7_isWord 36 = .ok (.aload_n 0, 1) := by decide +kernel
theorem dX7_isWord_37 : decode cX7_isWord 37 = .ok (.getfield 11, 3) := by decide +kernel
theorem dX7_isWord_40 : decode cX7_isWord 40 = .ok (.aload_n 0, 1) := by decide +kernel
theorem dX7_isWord_41 : decode cX7_isWord 41 = .ok (.getfield 34, 3) := by decide +kernel
theorem dX7_isWord_44 : decode cX7_isWord 44 = .ok (.iload_n 2, 1) := by decide +kernel
theorem dX7_isWord_45 : decode cX7_isWord 45 = .ok (.iadd, 1) := by decide +kernel
theorem dX7_isWord_46 : decode cX7_isWord 46 = .ok (.baload, 1) := by decide +kernel
theorem dX7_isWord_47 : decode cX7_isWord 47 = .ok (.aload_n 1, 1) := by decide +kernel
theorem dX7_isWord_48 : decode cX7_isWord 48 = .ok (.iload_n 2, 1) := by decide +kernel
theorem dX7_isWord_49 : decode cX7_isWord 49 = .ok (.invokevirtual 55, 3) := by decide +kernel
theorem dX7_isWord_52 : decode cX7_isWord 52 = .ok (.if_icmp .eq 5, 3) := by decide +kernel
theorem dX7_isWord_55 : decode cX7_isWord 55 = .ok (.iconst 0, 1) := by decide +kernel
theorem dX7_isWord_56 : decode cX7_isWord 56 = .ok (.ireturn, 1) := by decide +kernel
theorem dX7_isWord_57 : decode cX7_isWord 57 = .ok (.iinc 2 1, 3) := by decide +kernel
theorem dX7_isWord_60 : decode cX7_isWord 60 = .ok (.goto (-32), 3) := by decide +kernel
theorem dX7_isWord_63 : decode cX7_isWord 63 = .ok (.iconst 1, 1) := by decide +kernel
theorem dX7_isWord_64 : decode cX7_isWord 64 = .ok (.ireturn, 1) := by decide +kernel
theorem dX7_isSign_0 : decode cX7_isSign 0 = .ok (.aload_n 0, 1) := by decide +kernel
theorem dX7_isSign_1 : decode cX7_isSign 1 = .ok (.getfield 37, 3) := by decide +kernel
theorem dX7_isSign_4 : decode cX7_isSign 4 = .ok (.iconst 3, 1) := by decide +kernel
theorem dX7_isSign_5 : decode cX7_isSign 5 = .ok (.if_icmp .ne 20, 3) := by decide +kernel
theorem dX7_isSign_8 : decode cX7_isSign 8 = .ok (.aload_n 0, 1) := by decide +kernel
theorem dX7_isSign_9 : decode cX7_isSign 9 = .ok (.getfield 11, 3) := by decide +kernel
theorem dX7_isSign_12 : decode cX7_isSign 12 = .ok (.aload_n 0, 1) := by decide +kernel
theorem dX7_isSign_13 : decode cX7_isSign 13 = .ok (.getfield 34, 3) := by decide +kernel
theorem dX7_isSign_16 : decode cX7_isSign 16 = .ok (.baload, 1) := by decide +kernel
theorem dX7_isSign_17 : decode cX7_isSign 17 = .ok (.iload_n 1, 1) := by decide +kernel
theorem dX7_isSign_18 : decode cX7_isSign 18 = .ok (.if_icmp .ne 7, 3) := by decide +kernel
theorem dX7_isSign_21 : decode cX7_isSign 21 = .ok (.iconst 1, 1) := by decide +kernel
theorem dX7_isSign_22 : decode cX7_isSign 22 = .ok (.goto 4, 3) := by decide +kernel
theorem dX7_isSign_25 : decode cX7_isSign 25 = .ok (.iconst 0, 1) := by decide +kernel
theorem dX7_isSign_26 : decode cX7_isSign 26 = .ok (.ireturn, 1) := by decide +kernel
theorem dX7_takeSign_0 : decode cX7_takeSign 0 = .ok (.aload_n 0, 1) := by decide +kernel
theorem dX7_takeSign_1 : decode cX7_takeSign 1 = .ok (.iload_n 1, 1) := by decide +kernel
theorem dX7_takeSign_2 : decode cX7_takeSign 2 = .ok (.invokevirtual 59, 3) := by decide +kernel
theorem dX7_takeSign_5 : decode cX7_takeSign 5 = .ok (.ifCond .eq 10, 3) := by decide +kernel
theorem dX7_takeSign_8 : decode cX7_takeSign 8 = .ok (.aload_n 0, 1) := by decide +kernel
theorem dX7_takeSign_9 : decode cX7_takeSign 9 = .ok (.invokevirtual 31, 3) := by decide +kernel
theorem dX7_takeSign_12 : decode cX7_takeSign 12 = .ok (.goto 8, 3) := by decide +kernel
theorem dX7_takeSign_15 : decode cX7_takeSign 15 = .ok (.aload_n 0, 1) := by decide +kernel
theorem dX7_takeSign_16 : decode cX7_takeSign 16 = .ok (.iconst 1, 1) := by decide +kernel
theorem dX7_takeSign_17 : decode cX7_takeSign 17 = .ok (.invokevirtual 63, 3) := by decide +kernel
theorem dX7_takeSign_20 : decode cX7_takeSign 20 = .ok (.return_, 1) := by decide +kernel
theorem dX7_takeNumber_0 : decode cX7_takeNumber 0 = .ok (.aload_n 0, 1) := by decide +kernel
theorem dX7_takeNumber_1 : decode cX7_takeNumber 1 = .ok (.getfield 37, 3) := by decide +kernel
theorem dX7_takeNumber_4 : decode cX7_takeNumber 4 = .ok (.iconst 1, 1) := by decide +kernel
theorem dX7_takeNumber_5 : decode cX7_takeNumber 5 = .ok (.if_icmp .eq 10, 3) := by decide +kernel
theorem dX7_takeNumber_8 : decode cX7_takeNumber 8 = .ok (.aload_n 0, 1) := by decide +kernel
theorem dX7_takeNumber_9 : decode cX7_takeNumber 9 = .ok (.iconst 1, 1) := by decide +kernel
theorem dX7_takeNumber_10 : decode cX7_takeNumber 10 = .ok (.invokevirtual 63, 3) := by decide +kernel
theorem dX7_takeNumber_13 : decode cX7_takeNumber 13 = .ok (.iload_n 1, 1) := by decide +kernel
theorem dX7_takeNumber_14 : decode cX7_takeNumber 14 = .ok (.ireturn, 1) := by decide +kernel
theorem dX7_takeNumber_15 : decode cX7_takeNumber 15 = .ok (.aload_n 0, 1) := by decide +kernel
theorem dX7_takeNumber_16 : decode cX7_takeNumber 16 = .ok (.getfield 40, 3) := by decide +kernel
theorem dX7_takeNumber_19 : decode cX7_takeNumber 19 = .ok (.iload_n 1, 1) := by decide +kernel
theorem dX7_takeNumber_20 : decode cX7_takeNumber 20 = .ok (.if_icmp .lt 11, 3) := by decide +kernel
theorem dX7_takeNumber_23 : decode cX7_takeNumber 23 = .ok (.aload_n 0, 1) := by decide +kernel
theorem dX7_takeNumber_24 : decode cX7_takeNumber 24 = .ok (.getfield 40, 3) := by decide +kernel
theorem dX7_takeNumber_27 : decode cX7_takeNumber 27 = .ok (.iload_n 2, 1) := by decide +kernel
theorem dX7_takeNumber_28 : decode cX7_takeNumber 28 = .ok (.if_icmp .le 10, 3) := by decide +kernel
theorem dX7_takeNumber_31 : decode cX7_takeNumber 31 = .ok (.aload_n 0, 1) := by decide +kernel
theorem dX7_takeNumber_32 : decode cX7_takeNumber 32 = .ok (.iconst 2, 1) := by decide +kernel
theorem dX7_takeNumber_33 : decode cX7_takeNumber 33 = .ok (.invokevirtual 63, 3) := by decide +kernel
theorem dX7_takeNumber_36 : decode cX7_takeNumber 36 = .ok (.iload_n 1, 1) := by decide +kernel
theorem dX7_takeNumber_37 : decode cX7_takeNumber 37 = .ok (.ireturn, 1) := by decide +kernel
theorem dX7_takeNumber_38 : decode cX7_takeNumber 38 = .ok (.aload_n 0, 1) := by decide +kernel
theorem dX7_takeNumber_39 : decode cX7_takeNumber 39 = .ok (.getfield 40, 3) := by decide +kernel
theorem dX7_takeNumber_42 : decode cX7_takeNumber 42 = .ok (.istore_n 3, 1) := by decide +kernel
theorem dX7_takeNumber_43 : decode cX7_takeNumber 43 = .ok (.aload_n 0, 1) := by decide +kernel
theorem dX7_takeNumber_44 : decode cX7_takeNumber 44 = .ok (.invokevirtual 31, 3) := by decide +kernel
theorem dX7_takeNumber_47 : decode cX7_takeNumber 47 = .ok (.iload_n 3, 1) := by decide +kernel
theorem dX7_takeNumber_48 : decode cX7_takeNumber 48 = .ok (.ireturn, 1) := by decide +kernel
theorem dX7_takeEnd_0 : decode cX7_takeEnd 0 = .ok (.aload_n 0, 1) := by decide +kernel
theorem dX7_takeEnd_1 : decode cX7_takeEnd 1 = .ok (.getfield 37, 3) := by decide +kernel
theorem dX7_takeEnd_4 : decode cX7_takeEnd 4 = .ok (.ifCond .eq 8, 3) := by decide +kernel
theorem dX7_takeEnd_7 : decode cX7_takeEnd 7 = .ok (.aload_n 0, 1) := by decide +kernel
theorem dX7_takeEnd_8 : decode cX7_takeEnd 8 = .ok (.iconst 1, 1) := by decide +kernel
theorem dX7_takeEnd_9 : decode cX7_takeEnd 9 = .ok (.invokevirtual 63, 3) := by decide +kernel
theorem dX7_takeEnd_12 : decode cX7_takeEnd 12 = .ok (.aload_n 0, 1) := by decide +kernel
theorem dX7_takeEnd_13 : decode cX7_takeEnd 13 = .ok (.getfield 28, 3) := by decide +kernel
theorem dX7_takeEnd_16 : decode cX7_takeEnd 16 = .ok (.ifCond .ne 7, 3) := by decide +kernel
theorem dX7_takeEnd_19 : decode cX7_takeEnd 19 = .ok (.iconst 1, 1) := by decide +kernel
theorem dX7_takeEnd_20 : decode cX7_takeEnd 20 = .ok (.goto 4, 3) := by decide +kernel
theorem dX7_takeEnd_23 : decode cX7_takeEnd 23 = .ok (.iconst 0, 1) := by decide +kernel
theorem dX7_takeEnd_24 : decode cX7_takeEnd 24 = .ok (.ireturn, 1) := by decide +kernel
theorem dX8_init_0 : decode cX8_init 0 = .ok (.aload_n 0, 1) := by decide +kernel
theorem dX8_init_1 : decode cX8_init 1 = .ok (.invokespecial 3, 3) := by decide +kernel
theorem dX8_init_4 : decode cX8_init 4 = .ok (.aload_n 0, 1) := by decide +kernel
theorem dX8_init_5 : decode cX8_init 5 = .ok (.new 9, 3) := by decide +kernel
theorem dX8_init_8 : decode cX8_init 8 = .ok (.dup, 1) := by decide +kernel
theorem dX8_init_9 : decode cX8_init 9 = .ok (.invokespecial 11, 3) := by decide +kernel
theorem dX8_init_12 : decode cX8_init 12 = .ok (.putfield 12, 3) := by decide +kernel
theorem dX8_init_15 : decode cX8_init 15 = .ok (.aload_n 0, 1) := by decide +kernel
theorem dX8_init_16 : decode cX8_init 16 = .ok (.bipush 8, 2) := by decide +kernel
theorem dX8_init_18 : decode cX8_init 18 = .ok (.newarray .int, 2) := by decide +kernel
theorem dX8_init_20 : decode cX8_init 20 = .ok (.putfield 20, 3) := by decide +kernel
theorem dX8_init_23 : decode cX8_init 23 = .ok (.aload_n 0, 1) := by decide +kernel
theorem dX8_init_24 : decode cX8_init 24 = .ok (.sipush 305, 3) := by decide +kernel
theorem dX8_init_27 : decode cX8_init 27 = .ok (.newarray .int, 2) := by decide +kernel
theorem dX8_init_29 : decode cX8_init 29 = .ok (.putfield 24, 3) := by decide +kernel
theorem dX8_init_32 : decode cX8_init 32 = .ok (.return_, 1) := by decide +kernel
theorem dX8_passDay_0 : decode cX8_passDay 0 = .ok (.aload_n 1, 1) := by decide +kernel
theorem dX8_passDay_1 : decode cX8_passDay 1 = .ok (.getfield 27, 3) := by decide +kernel
theorem dX8_passDay_4 : decode cX8_passDay 4 = .ok (.sipush 200, 3) := by decide +kernel
theorem dX8_passDay_7 : decode cX8_passDay 7 = .ok (.if_icmp .lt 5, 3) := by decide +kernel
theorem dX8_passDay_10 : decode cX8_passDay 10 = .ok (.iconst 0, 1) := by decide +kernel
theorem dX8_passDay_11 : decode cX8_passDay 11 = .ok (.ireturn, 1) := by decide +kernel
theorem dX8_passDay_12 : decode cX8_passDay 12 = .ok (.aload_n 1, 1) := by decide +kernel
theorem dX8_passDay_13 : decode cX8_passDay 13 = .ok (.aload_n 2, 1) := by decide +kernel
theorem dX8_passDay_14 : decode cX8_passDay 14 = .ok (.invokestatic 31, 3) := by decide +kernel
theorem dX8_passDay_17 : decode cX8_passDay 17 = .ok (.aload_n 1, 1) := by decide +kernel
theorem dX8_passDay_18 : decode cX8_passDay 18 = .ok (.dup, 1) := by decide +kernel
theorem dX8_passDay_19 : decode cX8_passDay 19 = .ok (.getfield 27, 3) := by decide +kernel
theorem dX8_passDay_22 : decode cX8_passDay 22 = .ok (.iconst 1, 1) := by decide +kernel
theorem dX8_passDay_23 : decode cX8_passDay 23 = .ok (.iadd, 1) := by decide +kernel
theorem dX8_passDay_24 : decode cX8_passDay 24 = .ok (.putfield 27, 3) := by decide +kernel
theorem dX8_passDay_27 : decode cX8_passDay 27 = .ok (.aload_n 2, 1) := by decide +kernel
theorem dX8_passDay_28 : decode cX8_passDay 28 = .ok (.getfield 35, 3) := by decide +kernel
theorem dX8_passDay_31 : decode cX8_passDay 31 = .ok (.aload_n 1, 1) := by decide +kernel
theorem dX8_passDay_32 : decode cX8_passDay 32 = .ok (.getfield 27, 3) := by decide +kernel
theorem dX8_passDay_35 : decode cX8_passDay 35 = .ok (.iaload, 1) := by decide +kernel
theorem dX8_passDay_36 : decode cX8_passDay 36 = .ok (.istore 4, 2) := by decide +kernel
theorem dX8_passDay_38 : decode cX8_passDay 38 = .ok (.iconst 0, 1) := by decide +kernel
theorem dX8_passDay_39 : decode cX8_passDay 39 = .ok (.istore 5, 2) := by decide +kernel
theorem dX8_passDay_41 : decode cX8_passDay 41 = .ok (.iload 5, 2) := by decide +kernel
theorem dX8_passDay_43 : decode cX8_passDay 43 = .ok (.aload_n 2, 1) := by decide +kernel
theorem dX8_passDay_44 : decode cX8_passDay 44 = .ok (.getfield 40, 3) := by decide +kernel
theorem dX8_passDay_47 : decode cX8_passDay 47 = .ok (.if_icmp .ge 26, 3) := by decide +kernel
theorem dX8_passDay_50 : decode cX8_passDay 50 = .ok (.aload_n 1, 1) := by decide +kernel
theorem dX8_passDay_51 : decode cX8_passDay 51 = .ok (.dup, 1) := by decide +kernel
theorem dX8_passDay_52 : decode cX8_passDay 52 = .ok (.getfield 43, 3) := by decide +kernel
theorem dX8_passDay_55 : decode cX8_passDay 55 = .ok (.aload_n 1, 1) := by decide +kernel
theorem dX8_passDay_56 : decode cX8_passDay 56 = .ok (.iload 5, 2) := by decide +kernel
theorem dX8_passDay_58 : decode cX8_passDay 58 = .ok (.iload 4, 2) := by decide +kernel
theorem dX8_passDay_60 : decode cX8_passDay 60 = .ok (.invokevirtual 46, 3) := by decide +kernel
theorem dX8_passDay_63 : decode cX8_passDay 63 = .ok (.iadd, 1) := by decide +kernel
theorem dX8_passDay_64 : decode cX8_passDay 64 = .ok (.putfield 43, 3) := by decide +kernel
theorem dX8_passDay_67 : decode cX8_passDay 67 = .ok (.iinc 5 1, 3) := by decide +kernel
theorem dX8_passDay_70 : decode cX8_passDay 70 = .ok (.goto (-29), 3) := by decide +kernel
theorem dX8_passDay_73 : decode cX8_passDay 73 = .ok (.iconst 0, 1) := by decide +kernel
theorem dX8_passDay_74 : decode cX8_passDay 74 = .ok (.istore 5, 2) := by decide +kernel
theorem dX8_passDay_76 : decode cX8_passDay 76 = .ok (.iload 5, 2) := by decide +kernel
theorem dX8_passDay_78 : decode cX8_passDay 78 = .ok (.aload_n 2, 1) := by decide +kernel
theorem dX8_passDay_79 : decode cX8_passDay 79 = .ok (.getfield 40, 3) := by decide +kernel
theorem dX8_passDay_82 : decode cX8_passDay 82 = .ok (.if_icmp .ge 18, 3) := by decide +kernel
theorem dX8_passDay_85 : decode cX8_passDay 85 = .ok (.aload_n 0, 1) := by decide +kernel
theorem dX8_passDay_86 : decode cX8_passDay 86 = .ok (.aload_n 1, 1) := by decide +kernel
theorem dX8_passDay_87 : decode cX8_passDay 87 = .ok (.aload_n 2, 1) := by decide +kernel
theorem dX8_passDay_88 : decode cX8_passDay 88 = .ok (.aload_n 3, 1) := by decide +kernel
theorem dX8_passDay_89 : decode cX8_passDay 89 = .ok (.iload 5, 2) := by decide +kernel
theorem dX8_passDay_91 : decode cX8_passDay 91 = .ok (.invokevirtual 50, 3) := by decide +kernel
theorem dX8_passDay_94 : decode cX8_passDay 94 = .ok (.iinc 5 1, 3) := by decide +kernel
theorem dX8_passDay_97 : decode cX8_passDay 97 = .ok (.goto (-21), 3) := by decide +kernel
theorem dX8_passDay_100 : decode cX8_passDay 100 = .ok (.iconst 1, 1) := by decide +kernel
