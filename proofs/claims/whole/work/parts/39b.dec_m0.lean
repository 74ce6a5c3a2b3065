theorem dX11_init_0 : decode cX11_init 0 = .ok (.aload_n 0, 1) := by decide +kernel
theorem dX11_init_1 : decode cX11_init 1 = .ok (.invokespecial 3, 3) := by decide +kernel
theorem dX11_init_4 : decode cX11_init 4 = .ok (.aload_n 0, 1) := by decide +kernel
theorem dX11_init_5 : decode cX11_init 5 = .ok (.iconst (-1), 1) := by decide +kernel
theorem dX11_init_6 : decode cX11_init 6 = .ok (.putfield 9, 3) := by decide +kernel
theorem dX11_init_9 : decode cX11_init 9 = .ok (.aload_n 0, 1) := by decide +kernel
theorem dX11_init_10 : decode cX11_init 10 = .ok (.sipush 600, 3) := by decide +kernel
theorem dX11_init_13 : decode cX11_init 13 = .ok (.newarray .int, 2) := by decide +kernel
theorem dX11_init_15 : decode cX11_init 15 = .ok (.putfield 13, 3) := by decide +kernel
theorem dX11_init_18 : decode cX11_init 18 = .ok (.aload_n 0, 1) := by decide +kernel
theorem dX11_init_19 : decode cX11_init 19 = .ok (.iconst 3, 1) := by decide +kernel
theorem dX11_init_20 : decode cX11_init 20 = .ok (.newarray .int, 2) := by decide +kernel
theorem dX11_init_22 : decode cX11_init 22 = .ok (.putfield 17, 3) := by decide +kernel
theorem dX11_init_25 : decode cX11_init 25 = .ok (.aload_n 0, 1) := by decide +kernel
theorem dX11_init_26 : decode cX11_init 26 = .ok (.bipush 6, 2) := by decide +kernel
theorem dX11_init_28 : decode cX11_init 28 = .ok (.newarray .int, 2) := by decide +kernel
theorem dX11_init_30 : decode cX11_init 30 = .ok (.putfield 20, 3) := by decide +kernel
theorem dX11_init_33 : decode cX11_init 33 = .ok (.aload_n 0, 1) := by decide +kernel
theorem dX11_init_34 : decode cX11_init 34 = .ok (.bipush 6, 2) := by decide +kernel
theorem dX11_init_36 : decode cX11_init 36 = .ok (.newarray .int, 2) := by decide +kernel
theorem dX11_init_38 : decode cX11_init 38 = .ok (.putfield 23, 3) := by decide +kernel
theorem dX11_init_41 : decode cX11_init 41 = .ok (.aload_n 0, 1) := by decide +kernel
theorem dX11_init_42 : decode cX11_init 42 = .ok (.iconst 5, 1) := by decide +kernel
theorem dX11_init_43 : decode cX11_init 43 = .ok (.iconst 4, 1) := by decide +kernel
theorem dX11_init_44 : decode cX11_init 44 = .ok (.multianewarray 26 2, 4) := by decide +kernel
theorem dX11_init_48 : decode cX11_init 48 = .ok (.putfield 28, 3) := by decide +kernel
theorem dX11_init_51 : decode cX11_init 51 = .ok (.aload_n 0, 1) := by decide +kernel
theorem dX11_init_52 : decode cX11_init 52 = .ok (.iconst 5, 1) := by decide +kernel
theorem dX11_init_53 : decode cX11_init 53 = .ok (.iconst 4, 1) := by decide +kernel
theorem dX11_init_54 : decode cX11_init 54 = .ok (.multianewarray 26 2, 4) := by decide +kernel
theorem dX11_init_58 : decode cX11_init 58 = .ok (.putfield 31, 3) := by decide +kernel
theorem dX11_init_61 : decode cX11_init 61 = .ok (.aload_n 0, 1) := by decide +kernel
theorem dX11_init_62 : decode cX11_init 62 = .ok (.bipush 12, 2) := by decide +kernel
theorem dX11_init_64 : decode cX11_init 64 = .ok (.iconst 2, 1) := by decide +kernel
theorem dX11_init_65 : decode cX11_init 65 = .ok (.multianewarray 26 2, 4) := by decide +kernel
theorem dX11_init_69 : decode cX11_init 69 = .ok (.putfield 34, 3) := by decide +kernel
theorem dX11_init_72 : decode cX11_init 72 = .ok (.aload_n 0, 1) := by decide +kernel
theorem dX11_init_73 : decode cX11_init 73 = .ok (.bipush 12, 2) := by decide +kernel
theorem dX11_init_75 : decode cX11_init 75 = .ok (.iconst 2, 1) := by decide +kernel
theorem dX11_init_76 : decode cX11_init 76 = .ok (.multianewarray 26 2, 4) := by decide +kernel
theorem dX11_init_80 : decode cX11_init 80 = .ok (.putfield 37, 3) := by decide +kernel
theorem dX11_init_83 : decode cX11_init 83 = .ok (.aload_n 0, 1) := by decide +kernel
theorem dX11_init_84 : decode cX11_init 84 = .ok (.bipush 12, 2) := by decide +kernel
theorem dX11_init_86 : decode cX11_init 86 = .ok (.iconst 5, 1) := by decide +kernel
theorem dX11_init_87 : decode cX11_init 87 = .ok (.multianewarray 26 2, 4) := by decide +kernel
theorem dX11_init_91 : decode cX11_init 91 = .ok (.putfield 40, 3) := by decide +kernel
theorem dX11_init_94 : decode cX11_init 94 = .ok (.aload_n 0, 1) := by decide +kernel
theorem dX11_init_95 : decode cX11_init 95 = .ok (.bipush 12, 2) := by decide +kernel
theorem dX11_init_97 : decode cX11_init 97 = .ok (.iconst 5, 1) := by decide +kernel
theorem dX11_init_98 : decode cX11_init 98 = .ok (.multianewarray 26 2, 4) := by decide +kernel
theorem dX11_init_102 : decode cX11_init 102 = .ok (.putfield 43, 3) := by decide +kernel
theorem dX11_init_105 : decode cX11_init 105 = .ok (.aload_n 0, 1) := by decide +kernel
theorem dX11_init_106 : decode cX11_init 106 = .ok (.sipush 160, 3) := by decide +kernel
theorem dX11_init_109 : decode cX11_init 109 = .ok (.iconst 2, 1) := by decide +kernel
theorem dX11_init_110 : decode cX11_init 110 = .ok (.multianewarray 26 2, 4) := by decide +kernel
theorem dX11_init_114 : decode cX11_init 114 = .ok (.putfield 46, 3) := by decide +kernel
theorem dX11_init_117 : decode cX11_init 117 = .ok (.aload_n 0, 1) := by decide +kernel
theorem dX11_init_118 : decode cX11_init 118 = .ok (.sipush 160, 3) := by decide +kernel
theorem dX11_init_121 : decode cX11_init 121 = .ok (.iconst 2, 1) := by decide +kernel
theorem dX11_init_122 : decode cX11_init 122 = .ok (.multianewarray 26 2, 4) := by decide +kernel
theorem dX11_init_126 : decode cX11_init 126 = .ok (.putfield 49, 3) := by decide +kernel
theorem dX11_init_129 : decode cX11_init 129 = .ok (.aload_n 0, 1) := by decide +kernel
theorem dX11_init_130 : decode cX11_init 130 = .ok (.bipush 8, 2) := by decide +kernel
theorem dX11_init_132 : decode cX11_init 132 = .ok (.iconst 3, 1) := by decide +kernel
theorem dX11_init_133 : decode cX11_init 133 = .ok (.multianewarray 26 2, 4) := by decide +kernel
theorem dX11_init_137 : decode cX11_init 137 = .ok (.putfield 52, 3) := by decide +kernel
theorem dX11_init_140 : decode cX11_init 140 = .ok (.aload_n 0, 1) := by decide +kernel
theorem dX11_init_141 : decode cX11_init 141 = .ok (.bipush 8, 2) := by decide +kernel
theorem dX11_init_143 : decode cX11_init 143 = .ok (.iconst 3, 1) := by decide +kernel
theorem dX11_init_144 : decode cX11_init 144 = .ok (.multianewarray 26 2, 4) := by decide +kernel
theorem dX11_init_148 : decode cX11_init 148 = .ok (.putfield 55, 3) := by decide +kernel
theorem dX11_init_151 : decode cX11_init 151 = .ok (.aload_n 0, 1) := by decide +kernel
theorem dX11_init_152 : decode cX11_init 152 = .ok (.sipush 160, 3) := by decide +kernel
theorem dX11_init_155 : decode cX11_init 155 = .ok (.newarray .int, 2) := by decide +kernel
theorem dX11_init_157 : decode cX11_init 157 = .ok (.putfield 58, 3) := by decide +kernel
theorem dX11_init_160 : decode cX11_init 160 = .ok (.aload_n 0, 1) := by decide +kernel
theorem dX11_init_161 : decode cX11_init 161 = .ok (.bipush 8, 2) := by decide +kernel
theorem dX11_init_163 : decode cX11_init 163 = .ok (.newarray .int, 2) := by decide +kernel
theorem dX11_init_165 : decode cX11_init 165 = .ok (.putfield 61, 3) := by decide +kernel
theorem dX11_init_168 : decode cX11_init 168 = .ok (.aload_n 0, 1) := by decide +kernel
theorem dX11_init_169 : decode cX11_init 169 = .ok (.bipush 80, 2) := by decide +kernel
theorem dX11_init_171 : decode cX11_init 171 = .ok (.bipush 7, 2) := by decide +kernel
theorem dX11_init_173 : decode cX11_init 173 = .ok (.multianewarray 26 2, 4) := by decide +kernel
theorem dX11_init_177 : decode cX11_init 177 = .ok (.putfield 64, 3) := by decide +kernel
theorem dX11_init_180 : decode cX11_init 180 = .ok (.aload_n 0, 1) := by decide +kernel
theorem dX11_init_181 : decode cX11_init 181 = .ok (.sipush 2685, 3) := by decide +kernel
theorem dX11_init_184 : decode cX11_init 184 = .ok (.newarray .int, 2) := by decide +kernel
theorem dX11_init_186 : decode cX11_init 186 = .ok (.putfield 67, 3) := by decide +kernel
theorem dX11_init_189 : decode cX11_init 189 = .ok (.aload_n 0, 1) := by decide +kernel
theorem dX11_init_190 : decode cX11_init 190 = .ok (.sipush 2685, 3) := by decide +kernel
theorem dX11_init_193 : decode cX11_init 193 = .ok (.newarray .int, 2) := by decide +kernel
theorem dX11_init_195 : decode cX11_init 195 = .ok (.putfield 70, 3) := by decide +kernel
theorem dX11_init_198 : decode cX11_init 198 = .ok (.aload_n 0, 1) := by decide +kernel
theorem dX11_init_199 : decode cX11_init 199 = .ok (.bipush 8, 2) := by decide +kernel
theorem dX11_init_201 : decode cX11_init 201 = .ok (.sipush 2685, 3) := by decide +kernel
theorem dX11_init_204 : decode cX11_init 204 = .ok (.multianewarray 26 2, 4) := by decide +kernel
theorem dX11_init_208 : decode cX11_init 208 = .ok (.putfield 73, 3) := by decide +kernel
theorem dX11_init_211 : decode cX11_init 211 = .ok (.aload_n 0, 1) := by decide +kernel
theorem dX11_init_212 : decode cX11_init 212 = .ok (.iconst 2, 1) := by decide +kernel
theorem dX11_init_213 : decode cX11_init 213 = .ok (.sipush 24166, 3) := by decide +kernel
theorem dX11_init_216 : decode cX11_init 216 = .ok (.multianewarray 26 2, 4) := by decide +kernel
theorem dX11_init_220 : decode cX11_init 220 = .ok (.putfield 76, 3) := by decide +kernel
theorem dX11_init_223 : decode cX11_init 223 = .ok (.aload_n 0, 1) := by decide +kernel
theorem dX11_init_224 : decode cX11_init 224 = .ok (.invokevirtual 79, 3) := by decide +kernel
theorem dX11_init_227 : decode cX11_init 227 = .ok (.aload_n 0, 1) := by decide +kernel
theorem dX11_init_228 : decode cX11_init 228 = .ok (.invokevirtual 82, 3) := by decide +kernel
theorem dX11_init_231 : decode cX11_init 231 = .ok (.return_, 1) := by decide +kernel
theorem dX11_tellsNothing_0 : decode cX11_tellsNothing 0 = .ok (.iconst 0, 1) := by decide +kernel
theorem dX11_tellsNothing_1 : decode cX11_tellsNothing 1 = .ok (.istore_n 1, 1) := by decide +kernel
theorem dX11_tellsNothing_2 : decode cX11_tellsNothing 2 = .ok (.iload_n 1, 1) := by decide +kernel
theorem dX11_tellsNothing_3 : decode cX11_tellsNothing 3 = .ok (.iconst 3, 1) := by decide +kernel
theorem dX11_tellsNothing_4 : decode cX11_tellsNothing 4 = .ok (.if_icmp .ge 16, 3) := by decide +kernel
theorem dX11_tellsNothing_7 : decode cX11_tellsNothing 7 = .ok (.aload_n 0, 1) := by decide +kernel
theorem dX11_tellsNothing_8 : decode cX11_tellsNothing 8 = .ok (.getfield 20, 3) := by decide +kernel
theorem dX11_tellsNothing_11 : decode cX11_tellsNothing 11 = .ok (.iload_n 1, 1) := by decide +kernel
theorem dX11_tellsNothing_12 : decode cX11_tellsNothing 12 = .ok (.iconst 0, 1) := by decide +kernel
theorem dX11_tellsNothing_13 : decode cX11_tellsNothing 13 = .ok (.iastore, 1) := by decide +kernel
theorem dX11_tellsNothing_14 : decode cX11_tellsNothing 14 = .ok (.iinc 1 1, 3) := by decide +kernel
theorem dX11_tellsNothing_17 : decode cX11_tellsNothing 17 = .ok (.goto (-15), 3) := by decide +kernel
theorem dX11_tellsNothing_20 : decode cX11_tellsNothing 20 = .ok (.aload_n 0, 1) := by decide +kernel
theorem dX11_tellsNothing_21 : decode cX11_tellsNothing 21 = .ok (.getfield 20, 3) := by decide +kernel
theorem dX11_tellsNothing_24 : decode cX11_tellsNothing 24 = .ok (.iconst 3, 1) := by decide +kernel
theorem dX11_tellsNothing_25 : decode cX11_tellsNothing 25 = .ok (.iconst 1, 1) := by decide +kernel
theorem dX11_tellsNothing_26 : decode cX11_tellsNothing 26 = .ok (.iastore, 1) := by decide +kernel
theorem dX11_tellsNothing_27 : decode cX11_tellsNothing 27 = .ok (.aload_n 0, 1) := by decide +kernel
theorem dX11_tellsNothing_28 : decode cX11_tellsNothing 28 = .ok (.getfield 20, 3) := by decide +kernel
theorem dX11_tellsNothing_31 : decode cX11_tellsNothing 31 = .ok (.iconst 4, 1) := by decide +kernel
theorem dX11_tellsNothing_32 : decode cX11_tellsNothing 32 = .ok (.iconst 3, 1) := by decide +kernel
theorem dX11_tellsNothing_33 : decode cX11_tellsNothing 33 = .ok (.iastore, 1) := by decide +kernel
theorem dX11_tellsNothing_34 : decode cX11_tellsNothing 34 = .ok (.aload_n 0, 1) := by decide +kernel
theorem dX11_tellsNothing_35 : decode cX11_tellsNothing 35 = .ok (.getfield 20, 3) := by decide +kernel
theorem dX11_tellsNothing_38 : decode cX11_tellsNothing 38 = .ok (.iconst 5, 1) := by decide +kernel
theorem dX11_tellsNothing_39 : decode cX11_tellsNothing 39 = .ok (.bipush 20, 2) := by decide +kernel
theorem dX11_tellsNothing_41 : decode cX11_tellsNothing 41 = .ok (.iastore, 1) := by decide +kernel
theorem dX11_tellsNothing_42 : decode cX11_tellsNothing 42 = .ok (.return_, 1) := by decide +kernel
theorem dX11_thrown_0 : decode cX11_thrown 0 = .ok (.aload_n 0, 1) := by decide +kernel
theorem dX11_thrown_1 : decode cX11_thrown 1 = .ok (.getfield 85, 3) := by decide +kernel
theorem dX11_thrown_4 : decode cX11_thrown 4 = .ok (.ireturn, 1) := by decide +kernel
theorem dX11_bad_0 : decode cX11_bad 0 = .ok (.iload_n 1, 1) := by decide +kernel
theorem dX11_bad_1 : decode cX11_bad 1 = .ok (.ifCond .eq 25, 3) := by decide +kernel
theorem dX11_bad_4 : decode cX11_bad 4 = .ok (.aload_n 0, 1) := by decide +kernel
theorem dX11_bad_5 : decode cX11_bad 5 = .ok (.getfield 85, 3) := by decide +kernel
theorem dX11_bad_8 : decode cX11_bad 8 = .ok (.ifCond .ne 18, 3) := by decide +kernel
theorem dX11_bad_11 : decode cX11_bad 11 = .ok (.aload_n 0, 1) := by decide +kernel
theorem dX11_bad_12 : decode cX11_bad 12 = .ok (.iload_n 2, 1) := by decide +kernel
theorem dX11_bad_13 : decode cX11_bad 13 = .ok (.putfield 85, 3) := by decide +kernel
theorem dX11_bad_16 : decode cX11_bad 16 = .ok (.aload_n 0, 1) := by decide +kernel
theorem dX11_bad_17 : decode cX11_bad 17 = .ok (.getfield 17, 3) := by decide +kernel
theorem dX11_bad_20 : decode cX11_bad 20 = .ok (.iload_n 3, 1) := by decide +kernel
theorem dX11_bad_21 : decode cX11_bad 21 = .ok (.dup2, 1) := by decide +kernel
theorem dX11_bad_22 : decode cX11_bad 22 = .ok (.iaload, 1) := by decide +kernel
theorem dX11_bad_23 : decode cX11_bad 23 = .ok (.iconst 1, 1) := by decide +kernel
theorem dX11_bad_24 : decode cX11_bad 24 = .ok (.iadd, 1) := by decide +kernel
theorem dX11_bad_25 : decode cX11_bad 25 = .ok (.iastore, 1) := by decide +kernel
theorem dX11_bad_26 : decode cX11_bad 26 = .ok (.aload_n 0, 1) := by decide +kernel
theorem dX11_bad_27 : decode cX11_bad 27 = .ok (.getfield 85, 3) := by decide +kernel
theorem dX11_bad_30 : decode cX11_bad 30 = .ok (.ifCond .eq 7, 3) := by decide +kernel
theorem dX11_bad_33 : decode cX11_bad 33 = .ok (.iconst 1, 1) := by decide +kernel
theorem dX11_bad_34 : decode cX11_bad 34 = .ok (.goto 4, 3) := by decide +kernel
theorem dX11_bad_37 : decode cX11_bad 37 = .ok (.iconst 0, 1) := by decide +kernel
theorem dX11_bad_38 : decode cX11_bad 38 = .ok (.ireturn, 1) := by decide +kernel
theorem dX11_in_0 : decode cX11_in 0 = .ok (.iload_n 0, 1) := by decide +kernel
theorem dX11_in_1 : decode cX11_in 1 = .ok (.iload_n 1, 1) := by decide +kernel
theorem dX11_in_2 : decode cX11_in 2 = .ok (.if_icmp .lt 12, 3) := by decide +kernel
theorem dX11_in_5 : decode cX11_in 5 = .ok (.iload_n 0, 1) := by decide +kernel
theorem dX11_in_6 : decode cX11_in 6 = .ok (.iload_n 2, 1) := by decide +kernel
theorem dX11_in_7 : decode cX11_in 7 = .ok (.if_icmp .gt 7, 3) := by decide +kernel
theorem dX11_in_10 : decode cX11_in 10 = .ok (.iconst 1, 1) := by decide +kernel
theorem dX11_in_11 : decode cX11_in 11 = .ok (.goto 4, 3) := by decide +kernel
theorem dX11_in_14 : decode cX11_in 14 = .ok (.iconst 0, 1) := by decide +kernel
theorem dX11_in_15 : decode cX11_in 15 = .ok (.ireturn, 1) := by decide +kernel
theorem dX11_less_0 : decode cX11_less 0 = .ok (.iload_n 0, 1) := by decide +kernel
theorem dX11_less_1 : decode cX11_less 1 = .ok (.iload_n 1, 1) := by decide +kernel
theorem dX11_less_2 : decode cX11_less 2 = .ok (.if_icmp .ge 7, 3) := by decide +kernel
theorem dX11_less_5 : decode cX11_less 5 = .ok (.iload_n 0, 1) := by decide +kernel
theorem dX11_less_6 : decode cX11_less 6 = .ok (.goto 4, 3) := by decide +kernel
theorem dX11_less_9 : decode cX11_less 9 = .ok (.iload_n 1, 1) := by decide +kernel
theorem dX11_less_10 : decode cX11_less 10 = .ok (.ireturn, 1) := by decide +kernel
theorem dX11_more_0 : decode cX11_more 0 = .ok (.iload_n 0, 1) := by decide +kernel
theorem dX11_more_1 : decode cX11_more 1 = .ok (.iload_n 1, 1) := by decide +kernel
theorem dX11_more_2 : decode cX11_more 2 = .ok (.if_icmp .le 7, 3) := by decide +kernel
theorem dX11_more_5 : decode cX11_more 5 = .ok (.iload_n 0, 1) := by decide +kernel
theorem dX11_more_6 : decode cX11_more 6 = .ok (.goto 4, 3) := by decide +kernel
theorem dX11_more_9 : decode cX11_more 9 = .ok (.iload_n 1, 1) := by decide +kernel
theorem dX11_more_10 : decode cX11_more 10 = .ok (.ireturn, 1) := by decide +kernel
theorem dX11_far_0 : decode cX11_far 0 = .ok (.iload_n 0, 1) := by decide +kernel
theorem dX11_far_1 : decode cX11_far 1 = .ok (.iload_n 1, 1) := by decide +kernel
theorem dX11_far_2 : decode cX11_far 2 = .ok (.if_icmp .le 9, 3) := by decide +kernel
theorem dX11_far_5 : decode cX11_far 5 = .ok (.iload_n 0, 1) := by decide +kernel
theorem dX11_far_6 : decode cX11_far 6 = .ok (.iload_n 1, 1) := by decide +kernel
theorem dX11_far_7 : decode cX11_far 7 = .ok (.isub, 1) := by decide +kernel
theorem dX11_far_8 : decode cX11_far 8 = .ok (.goto 6, 3) := by decide +kernel
theorem dX11_far_11 : decode cX11_far 11 = .ok (.iload_n 1, 1) := by decide +kernel
theorem dX11_far_12 : decode cX11_far 12 = .ok (.iload_n 0, 1) := by decide +kernel
theorem dX11_far_13 : decode cX11_far 13 = .ok (.isub, 1) := by decide +kernel
theorem dX11_far_14 : decode cX11_far 14 = .ok (.ireturn, 1) := by decide +kernel
theorem dX11_has_0 : decode cX11_has 0 = .ok (.iload_n 0, 1) := by decide +kernel
theorem dX11_has_1 : decode cX11_has 1 = .ok (.iload_n 1, 1) := by decide +kernel
theorem dX11_has_2 : decode cX11_has 2 = .ok (.ishr, 1) := by decide +kernel
theorem dX11_has_3 : decode cX11_has 3 = .ok (.iconst 1, 1) := by decide +kernel
theorem dX11_has_4 : decode cX11_has 4 = .ok (.iand, 1) := by decide +kernel
theorem dX11_has_5 : decode cX11_has 5 = .ok (.iconst 1, 1) := by decide +kernel
theorem dX11_has_6 : decode cX11_has 6 = .ok (.if_icmp .ne 7, 3) := by decide +kernel
theorem dX11_has_9 : decode cX11_has 9 = .ok (.iconst 1, 1) := by decide +kernel
theorem dX11_has_10 : decode cX11_has 10 = .ok (.goto 4, 3) := by decide +kernel
theorem dX11_has_13 : decode cX11_has 13 = .ok (.iconst 0, 1) := by decide +kernel
theorem dX11_has_14 : decode cX11_has 14 = .ok (.ireturn, 1) := by decide +kernel
theorem dX11_feed_0 : decode cX11_feed 0 = .ok (.aload_n 0, 1) := by decide +kernel
theorem dX11_feed_1 : decode cX11_feed 1 = .ok (.iconst 0, 1) := by decide +kernel
theorem dX11_feed_2 : decode cX11_feed 2 = .ok (.putfield 85, 3) := by decide +kernel
theorem dX11_feed_5 : decode cX11_feed 5 = .ok (.aload_n 0, 1) := by decide +kernel
theorem dX11_feed_6 : decode cX11_feed 6 = .ok (.getfield 88, 3) := by decide +kernel
theorem dX11_feed_9 : decode cX11_feed 9 = .ok (.bipush 20, 2) := by decide +kernel
theorem dX11_feed_11 : decode cX11_feed 11 = .ok (.iadd, 1) := by decide +kernel
theorem dX11_feed_12 : decode cX11_feed 12 = .ok (.sipush 600, 3) := by decide +kernel
theorem dX11_feed_15 : decode cX11_feed 15 = .ok (.if_icmp .le 5, 3) := by decide +kernel
theorem dX11_feed_18 : decode cX11_feed 18 = .ok (.iconst (-1), 1) := by decide +kernel
theorem dX11_feed_19 : decode cX11_feed 19 = .ok (.ireturn, 1) := by decide +kernel
theorem dX11_feed_20 : decode cX11_feed 20 = .ok (.iconst 0, 1) := by decide +kernel
theorem dX11_feed_21 : decode cX11_feed 21 = .ok (.istore 6, 2) := by decide +kernel
theorem dX11_feed_23 : decode cX11_feed 23 = .ok (.iload 6, 2) := by decide +kernel
theorem dX11_feed_25 : decode cX11_feed 25 = .ok (.bipush 20, 2) := by decide +kernel
theorem dX11_feed_27 : decode cX11_feed 27 = .ok (.if_icmp .ge 93, 3) := by decide +kernel
theorem dX11_feed_30 : decode cX11_feed 30 = .ok (.iload 6, 2) := by decide +kernel
theorem dX11_feed_32 : decode cX11_feed 32 = .ok (.iconst 4, 1) := by decide +kernel
theorem dX11_feed_33 : decode cX11_feed 33 = .ok (.if_icmp .ge 7, 3) := by decide +kernel
theorem dX11_feed_36 : decode cX11_feed 36 = .ok (.iload_n 1, 1) := by decide +kernel
theorem dX11_feed_37 : decode cX11_feed 37 = .ok (.goto 39, 3) := by decide +kernel
theorem dX11_feed_40 : decode cX11_feed 40 = .ok (.iload 6, 2) := by decide +kernel
theorem dX11_feed_42 : decode cX11_feed 42 = .ok (.bipush 8, 2) := by decide +kernel
theorem dX11_feed_44 : decode cX11_feed 44 = .ok (.if_icmp .ge 7, 3) := by decide +kernel
theorem dX11_feed_47 : decode cX11_feed 47 = .ok (.iload_n 2, 1) := by decide +kernel
theorem dX11_feed_48 : decode cX11_feed 48 = .ok (.goto 28, 3) := by decide +kernel
theorem dX11_feed_51 : decode cX11_feed 51 = .ok (.iload 6, 2) := by decide +kernel
theorem dX11_feed_53 : decode cX11_feed 53 = .ok (.bipush 12, 2) := by decide +kernel
theorem dX11_feed_55 : decode cX11_feed 55 = .ok (.if_icmp .ge 7, 3) := by decide +kernel
theorem dX11_feed_58 : decode cX11_feed 58 = .ok (.iload_n 3, 1) := by decide +kernel
theorem dX11_feed_59 : decode cX11_feed 59 = .ok (.goto 17, 3) := by decide +kernel
theorem dX11_feed_62 : decode cX11_feed 62 = .ok (.iload 6, 2) := by decide +kernel
theorem dX11_feed_64 : decode cX11_feed 64 = .ok (.bipush 16, 2) := by decide +kernel
theorem dX11_feed_66 : decode cX11_feed 66 = .ok (.if_icmp .ge 8, 3) := by decide +kernel
theorem dX11_feed_69 : decode cX11_feed 69 = .ok (.iload 4, 2) := by decide +kernel
theorem dX11_feed_71 : decode cX11_feed 71 = .ok (.goto 5, 3) := by decide +kernel
theorem dX11_feed_74 : decode cX11_feed 74 = .ok (.iload 5, 2) := by decide +kernel
theorem dX11_feed_76 : decode cX11_feed 76 = .ok (.istore 7, 2) := by decide +kernel
theorem dX11_feed_78 : decode cX11_feed 78 = .ok (.aload_n 0, 1) := by decide +kernel
theorem dX11_feed_79 : decode cX11_feed 79 = .ok (.getfield 13, 3) := by decide +kernel
theorem dX11_feed_82 : decode cX11_feed 82 = .ok (.aload_n 0, 1) := by decide +kernel
theorem dX11_feed_83 : decode cX11_feed 83 = .ok (.getfield 88, 3) := by decide +kernel
theorem dX11_feed_86 : decode cX11_feed 86 = .ok (.iload 7, 2) := by decide +kernel
theorem dX11_feed_88 : decode cX11_feed 88 = .ok (.bipush 24, 2) := by decide +kernel
theorem dX11_feed_90 : decode cX11_feed 90 = .ok (.bipush 8, 2) := by decide +kernel
theorem dX11_feed_92 : decode cX11_feed 92 = .ok (.iload 6, 2) := by decide +kernel
theorem dX11_feed_94 : decode cX11_feed 94 = .ok (.iconst 4, 1) := by decide +kernel
theorem dX11_feed_95 : decode cX11_feed 95 = .ok (.irem, 1) := by decide +kernel
theorem dX11_feed_96 : decode cX11_feed 96 = .ok (.imul, 1) := by decide +kernel
theorem dX11_feed_97 : decode cX11_feed 97 = .ok (.isub, 1) := by decide +kernel
theorem dX11_feed_98 : decode cX11_feed 98 = .ok (.ishr, 1) := by decide +kernel
theorem dX11_feed_99 : decode cX11_feed 99 = .ok (.sipush 255, 3) := by decide +kernel
theorem dX11_feed_102 : decode cX11_feed 102 = .ok (.iand, 1) := by decide +kernel
theorem dX11_feed_103 : decode cX11_feed 103 = .ok (.iastore, 1) := by decide +kernel
theorem dX11_feed_104 : decode cX11_feed 104 = .ok (.aload_n 0, 1) := by decide +kernel
theorem dX11_feed_105 : decode cX11_feed 105 = .ok (.dup, 1) := by decide +kernel
theorem dX11_feed_106 : decode cX11_feed 106 = .ok (.getfield 88, 3) := by decide +kernel
theorem dX11_feed_109 : decode cX11_feed 109 = .ok (.iconst 1, 1) := by decide +kernel
theorem dX11_feed_110 : decode cX11_feed 110 = .ok (.iadd, 1) := by decide +kernel
theorem dX11_feed_111 : decode cX11_feed 111 = .ok (.putfield 88, 3) := by decide +kernel
theorem dX11_feed_114 : decode cX11_feed 114 = .ok (.iinc 6 1, 3) := by decide +kernel
theorem dX11_feed_117 : decode cX11_feed 117 = .ok (.goto (-94), 3) := by decide +kernel
theorem dX11_feed_120 : decode cX11_feed 120 = .ok (.aload_n 0, 1) := by decide +kernel
theorem dX11_feed_121 : decode cX11_feed 121 = .ok (.getfield 88, 3) := by decide +kernel
theorem dX11_feed_124 : decode cX11_feed 124 = .ok (.ireturn, 1) := by decide +kernel
theorem dX11_byteAt_0 : decode cX11_byteAt 0 = .ok (.iload_n 1, 1) := by decide +kernel
theorem dX11_byteAt_1 : decode cX11_byteAt 1 = .ok (.aload_n 0, 1) := by decide +kernel
theorem dX11_byteAt_2 : decode cX11_byteAt 2 = .ok (.getfield 91, 3) := by decide +kernel
theorem dX11_byteAt_5 : decode cX11_byteAt 5 = .ok (.if_icmp .lt 7, 3) := by decide +kernel
theorem dX11_byteAt_8 : decode cX11_byteAt 8 = .ok (.iconst (-1), 1) := by decide +kernel
theorem dX11_byteAt_9 : decode cX11_byteAt 9 = .ok (.goto 9, 3) := by decide +kernel
theorem dX11_byteAt_12 : decode cX11_byteAt 12 = .ok (.aload_n 0, 1) := by decide +kernel
theorem dX11_byteAt_13 : decode cX11_byteAt 13 = .ok (.getfield 13, 3) := by decide +kernel
theorem dX11_byteAt_16 : decode cX11_byteAt 16 = .ok (.iload_n 1, 1) := by decide +kernel
theorem dX11_byteAt_17 : decode cX11_byteAt 17 = .ok (.iaload, 1) := by decide +kernel
theorem dX11_byteAt_18 : decode cX11_byteAt 18 = .ok (.ireturn, 1) := by decide +kernel
theorem dX11_blanks_0 : decode cX11_blanks 0 = .ok (.aload_n 0, 1) := by decide +kernel
theorem dX11_blanks_1 : decode cX11_blanks 1 = .ok (.aload_n 0, 1) := by decide +kernel
theorem dX11_blanks_2 : decode cX11_blanks 2 = .ok (.getfield 94, 3) := by decide +kernel
theorem dX11_blanks_5 : decode cX11_blanks 5 = .ok (.invokevirtual 97, 3) := by decide +kernel
theorem dX11_blanks_8 : decode cX11_blanks 8 = .ok (.bipush 32, 2) := by decide +kernel
theorem dX11_blanks_10 : decode cX11_blanks 10 = .ok (.if_icmp .ne 16, 3) := by decide +kernel
theorem dX11_blanks_13 : decode cX11_blanks 13 = .ok (.aload_n 0, 1) := by decide +kernel
theorem dX11_blanks_14 : decode cX11_blanks 14 = .ok (.dup, 1) := by decide +kernel
theorem dX11_blanks_15 : decode cX11_blanks 15 = .ok (.getfield 94, 3) := by decide +kernel
theorem dX11_blanks_18 : decode cX11_blanks 18 = .ok (.iconst 1, 1) := by decide +kernel
theorem dX11_blanks_19 : decode cX11_blanks 19 = .ok (.iadd, 1) := by decide +kernel
theorem dX11_blanks_20 : decode cX11_blanks 20 = .ok (.putfield 94, 3) := by decide +kernel
theorem dX11_blanks_23 : decode cX11_blanks 23 = .ok (.goto (-23), 3) := by decide +kernel
theorem dX11_blanks_26 : decode cX11_blanks 26 = .ok (.return_, 1) := by decide +kernel
theorem dX11_wrong_0 : decode cX11_wrong 0 = .ok (.aload_n 0, 1) := by decide +kernel
theorem dX11_wrong_1 : decode cX11_wrong 1 = .ok (.getfield 101, 3) := by decide +kernel
theorem dX11_wrong_4 : decode cX11_wrong 4 = .ok (.ifCond .ne 13, 3) := by decide +kernel
theorem dX11_wrong_7 : decode cX11_wrong 7 = .ok (.aload_n 0, 1) := by decide +kernel
theorem dX11_wrong_8 : decode cX11_wrong 8 = .ok (.iload_n 1, 1) := by decide +kernel
theorem dX11_wrong_9 : decode cX11_wrong 9 = .ok (.putfield 101, 3) := by decide +kernel
theorem dX11_wrong_12 : decode cX11_wrong 12 = .ok (.aload_n 0, 1) := by decide +kernel
theorem dX11_wrong_13 : decode cX11_wrong 13 = .ok (.iload_n 2, 1) := by decide +kernel
theorem dX11_wrong_14 : decode cX11_wrong 14 = .ok (.putfield 104, 3) := by decide +kernel
theorem dX11_wrong_17 : decode cX11_wrong 17 = .ok (.return_, 1) := by decide +kernel
theorem dX11_isDigit_0 : decode cX11_isDigit 0 = .ok (.iload_n 0, 1) := by decide +kernel
theorem dX11_isDigit_1 : decode cX11_isDigit 1 = .ok (.bipush 48, 2) := by decide +kernel
theorem dX11_isDigit_3 : decode cX11_isDigit 3 = .ok (.if_icmp .lt 13, 3) := by decide +kernel
theorem dX11_isDigit_6 : decode cX11_isDigit 6 = .ok (.iload_n 0, 1) := by decide +kernel
theorem dX11_isDigit_7 : decode cX11_isDigit 7 = .ok (.bipush 57, 2) := by decide +kernel
theorem dX11_isDigit_9 : decode cX11_isDigit 9 = .ok (.if_icmp .gt 7, 3) := by decide +kernel
theorem dX11_isDigit_12 : decode cX11_isDigit 12 = .ok (.iconst 1, 1) := by decide +kernel
theorem dX11_isDigit_13 : decode cX11_isDigit 13 = .ok (.goto 4, 3) := by decide +kernel
theorem dX11_isDigit_16 : decode cX11_isDigit 16 = .ok (.iconst 0, 1) := by decide +kernel
theorem dX11_isDigit_17 : decode cX11_isDigit 17 = .ok (.ireturn, 1) := by decide +kernel
theorem dX11_isSmall_0 : decode cX11_isSmall 0 = .ok (.iload_n 0, 1) := by decide +kernel
theorem dX11_isSmall_1 : decode cX11_isSmall 1 = .ok (.bipush 97, 2) := by decide +kernel
theorem dX11_isSmall_3 : decode cX11_isSmall 3 = .ok (.if_icmp .lt 13, 3) := by decide +kernel
theorem dX11_isSmall_6 : decode cX11_isSmall 6 = .ok (.iload_n 0, 1) := by decide +kernel
theorem dX11_isSmall_7 : decode cX11_isSmall 7 = .ok (.bipush 122, 2) := by decide +kernel
theorem dX11_isSmall_9 : decode cX11_isSmall 9 = .ok (.if_icmp .gt 7, 3) := by decide +kernel
theorem dX11_isSmall_12 : decode cX11_isSmall 12 = .ok (.iconst 1, 1) := by decide +kernel
theorem dX11_isSmall_13 : decode cX11_isSmall 13 = .ok (.goto 4, 3) := by decide +kernel
theorem dX11_isSmall_16 : decode cX11_isSmall 16 = .ok (.iconst 0, 1) := by decide +kernel
theorem dX11_isSmall_17 : decode cX11_isSmall 17 = .ok (.ireturn, 1) := by decide +kernel
theorem dX11_number_0 : decode cX11_number 0 = .ok (.aload_n 0, 1) := by decide +kernel
theorem dX11_number_1 : decode cX11_number 1 = .ok (.getfield 101, 3) := by decide +kernel
theorem dX11_number_4 : decode cX11_number 4 = .ok (.ifCond .eq 5, 3) := by decide +kernel
theorem dX11_number_7 : decode cX11_number 7 = .ok (.iconst 0, 1) := by decide +kernel
theorem dX11_number_8 : decode cX11_number 8 = .ok (.ireturn, 1) := by decide +kernel
theorem dX11_number_9 : decode cX11_number 9 = .ok (.aload_n 0, 1) := by decide +kernel
theorem dX11_number_10 : decode cX11_number 10 = .ok (.invokevirtual 107, 3) := by decide +kernel
theorem dX11_number_13 : decode cX11_number 13 = .ok (.aload_n 0, 1) := by decide +kernel
theorem dX11_number_14 : decode cX11_number 14 = .ok (.getfield 94, 3) := by decide +kernel
theorem dX11_number_17 : decode cX11_number 17 = .ok (.istore_n 3, 1) := by decide +kernel
theorem dX11_number_18 : decode cX11_number 18 = .ok (.iconst 0, 1) := by decide +kernel
theorem dX11_number_19 : decode cX11_number 19 = .ok (.istore 4, 2) := by decide +kernel
theorem dX11_number_21 : decode cX11_number 21 = .ok (.aload_n 0, 1) := by decide +kernel
theorem dX11_number_22 : decode cX11_number 22 = .ok (.aload_n 0, 1) := by decide +kernel
theorem dX11_number_23 : decode cX11_number 23 = .ok (.getfield 94, 3) := by decide +kernel
theorem dX11_number_26 : decode cX11_number 26 = .ok (.invokevirtual 97, 3) := by decide +kernel
theorem dX11_number_29 : decode cX11_number 29 = .ok (.invokestatic 110, 3) := by decide +kernel
theorem dX11_number_32 : decode cX11_number 32 = .ok (.ifCond .ne 12, 3) := by decide +kernel
theorem dX11_number_35 : decode cX11_number 35 = .ok (.aload_n 0, 1) := by decide +kernel
theorem dX11_number_36 : decode cX11_number 36 = .ok (.iconst 1, 1) := by decide +kernel
theorem dX11_number_37 : decode cX11_number 37 = .ok (.aload_n 0, 1) := by decide +kernel
theorem dX11_number_38 : decode cX11_number 38 = .ok (.getfield 94, 3) := by decide +kernel
theorem dX11_number_41 : decode cX11_number 41 = .ok (.invokevirtual 114, 3) := by decide +kernel
theorem dX11_number_44 : decode cX11_number 44 = .ok (.aload_n 0, 1) := by decide +kernel
theorem dX11_number_45 : decode cX11_number 45 = .ok (.aload_n 0, 1) := by decide +kernel
theorem dX11_number_46 : decode cX11_number 46 = .ok (.getfield 94, 3) := by decide +kernel
theorem dX11_number_49 : decode cX11_number 49 = .ok (.invokevirtual 97, 3) := by decide +kernel
theorem dX11_number_52 : decode cX11_number 52 = .ok (.invokestatic 110, 3) := by decide +kernel
theorem dX11_number_55 : decode cX11_number 55 = .ok (.ifCond .eq 51, 3) := by decide +kernel
theorem dX11_number_58 : decode cX11_number 58 = .ok (.bipush 10, 2) := by decide +kernel
theorem dX11_number_60 : decode cX11_number 60 = .ok (.iload 4, 2) := by decide +kernel
theorem dX11_number_62 : decode cX11_number 62 = .ok (.imul, 1) := by decide +kernel
theorem dX11_number_63 : decode cX11_number 63 = .ok (.aload_n 0, 1) := by decide +kernel
theorem dX11_number_64 : decode cX11_number 64 = .ok (.aload_n 0, 1) := by decide +kernel
theorem dX11_number_65 : decode cX11_number 65 = .ok (.getfield 94, 3) := by decide +kernel
theorem dX11_number_68 : decode cX11_number 68 = .ok (.invokevirtual 97, 3) := by decide +kernel
theorem dX11_number_71 : decode cX11_number 71 = .ok (.iadd, 1) := by decide +kernel
theorem dX11_number_72 : decode cX11_number 72 = .ok (.bipush 48, 2) := by decide +kernel
theorem dX11_number_74 : decode cX11_number 74 = .ok (.isub, 1) := by decide +kernel
theorem dX11_number_75 : decode cX11_number 75 = .ok (.istore 4, 2) := by decide +kernel
theorem dX11_number_77 : decode cX11_number 77 = .ok (.iload 4, 2) := by decide +kernel
theorem dX11_number_79 : decode cX11_number 79 = .ok (.ldc 118, 2) := by decide +kernel
theorem dX11_number_81 : decode cX11_number 81 = .ok (.if_icmp .le 8, 3) := by decide +kernel
theorem dX11_number_84 : decode cX11_number 84 = .ok (.ldc 118, 2) := by decide +kernel
theorem dX11_number_86 : decode cX11_number 86 = .ok (.goto 5, 3) := by decide +kernel
theorem dX11_number_89 : decode cX11_number 89 = .ok (.iload 4, 2) := by decide +kernel
theorem dX11_number_91 : decode cX11_number 91 = .ok (.istore 4, 2) := by decide +kernel
theorem dX11_number_93 : decode cX11_number 93 = .ok (.aload_n 0, 1) := by decide +kernel
theorem dX11_number_94 : decode cX11_number 94 = .ok (.dup, 1) := by decide +kernel
theorem dX11_number_95 : decode cX11_number 95 = .ok (.getfield 94, 3) := by decide +kernel
theorem dX11_number_98 : decode cX11_number 98 = .ok (.iconst 1, 1) := by decide +kernel
theorem dX11_number_99 : decode cX11_number 99 = .ok (.iadd, 1) := by decide +kernel
theorem dX11_number_100 : decode cX11_number 100 = .ok (.putfield 94, 3) := by decide +kernel
theorem dX11_number_103 : decode cX11_number 103 = .ok (.goto (-59), 3) := by decide +kernel
theorem dX11_number_106 : decode cX11_number 106 = .ok (.iload 4, 2) := by decide +kernel
theorem dX11_number_108 : decode cX11_number 108 = .ok (.iload_n 1, 1) := by decide +kernel
theorem dX11_number_109 : decode cX11_number 109 = .ok (.iload_n 2, 1) := by decide +kernel
theorem dX11_number_110 : decode cX11_number 110 = .ok (.invokestatic 119, 3) := by decide +kernel
theorem dX11_number_113 : decode cX11_number 113 = .ok (.ifCond .ne 9, 3) := by decide +kernel
theorem dX11_number_116 : decode cX11_number 116 = .ok (.aload_n 0, 1) := by decide +kernel
theorem dX11_number_117 : decode cX11_number 117 = .ok (.iconst 2, 1) := by decide +kernel
theorem dX11_number_118 : decode cX11_number 118 = .ok (.iload_n 3, 1) := by decide +kernel
theorem dX11_number_119 : decode cX11_number 119 = .ok (.invokevirtual 114, 3) := by decide +kernel
theorem dX11_number_122 : decode cX11_number 122 = .ok (.aload_n 0, 1) := by decide +kernel
theorem dX11_number_123 : decode cX11_number 123 = .ok (.getfield 101, 3) := by decide +kernel
theorem dX11_number_126 : decode cX11_number 126 = .ok (.ifCond .ne 8, 3) := by decide +kernel
theorem dX11_number_129 : decode cX11_number 129 = .ok (.iload 4, 2) := by decide +kernel
theorem dX11_number_131 : decode cX11_number 131 = .ok (.goto 4, 3) := by decide +kernel
theorem dX11_number_134 : decode cX11_number 134 = .ok (.iconst 0, 1) := by decide +kernel
theorem dX11_number_135 : decode cX11_number 135 = .ok (.ireturn, 1) := by decide +kernel
theorem dX11_wordHere_0 : decode cX11_wordHere 0 = .ok (.aload_n 0, 1) := by decide +kernel
theorem dX11_wordHere_1 : decode cX11_wordHere 1 = .ok (.invokevirtual 107, 3) := by decide +kernel
theorem dX11_wordHere_4 : decode cX11_wordHere 4 = .ok (.iconst 0, 1) := by decide +kernel
theorem dX11_wordHere_5 : decode cX11_wordHere 5 = .ok (.istore_n 1, 1) := by decide +kernel
theorem dX11_wordHere_6 : decode cX11_wordHere 6 = .ok (.iconst 0, 1) := by decide +kernel
theorem dX11_wordHere_7 : decode cX11_wordHere 7 = .ok (.istore_n 2, 1) := by decide +kernel
theorem dX11_wordHere_8 : decode cX11_wordHere 8 = .ok (.aload_n 0, 1) := by decide +kernel
theorem dX11_wordHere_9 : decode cX11_wordHere 9 = .ok (.aload_n 0, 1) := by decide +kernel
theorem dX11_wordHere_10 : decode cX11_wordHere 10 = .ok (.getfield 94, 3) := by decide +kernel
theorem dX11_wordHere_13 : decode cX11_wordHere 13 = .ok (.iload_n 2, 1) := by decide +kernel
theorem dX11_wordHere_14 : decode cX11_wordHere 14 = .ok (.iadd, 1) := by decide +kernel
theorem dX11_wordHere_15 : decode cX11_wordHere 15 = .ok (.invokevirtual 97, 3) := by decide +kernel
theorem dX11_wordHere_18 : decode cX11_wordHere 18 = .ok (.invokestatic 123, 3) := by decide +kernel
theorem dX11_wordHere_21 : decode cX11_wordHere 21 = .ok (.ifCond .eq 40, 3) := by decide +kernel
theorem dX11_wordHere_24 : decode cX11_wordHere 24 = .ok (.iload_n 2, 1) := by decide +kernel
theorem dX11_wordHere_25 : decode cX11_wordHere 25 = .ok (.bipush 6, 2) := by decide +kernel
theorem dX11_wordHere_27 : decode cX11_wordHere 27 = .ok (.if_icmp .ge 26, 3) := by decide +kernel
theorem dX11_wordHere_30 : decode cX11_wordHere 30 = .ok (.bipush 27, 2) := by decide +kernel
theorem dX11_wordHere_32 : decode cX11_wordHere 32 = .ok (.iload_n 1, 1) := by decide +kernel
theorem dX11_wordHere_33 : decode cX11_wordHere 33 = .ok (.imul, 1) := by decide +kernel
theorem dX11_wordHere_34 : decode cX11_wordHere 34 = .ok (.aload_n 0, 1) := by decide +kernel
theorem dX11_wordHere_35 : decode cX11_wordHere 35 = .ok (.aload_n 0, 1) := by decide +kernel
theorem dX11_wordHere_36 : decode cX11_wordHere 36 = .ok (.getfield 94, 3) := by decide +kernel
theorem dX11_wordHere_39 : decode cX11_wordHere 39 = .ok (.iload_n 2, 1) := by decide +kernel
theorem dX11_wordHere_40 : decode cX11_wordHere 40 = .ok (.iadd, 1) := by decide +kernel
theorem dX11_wordHere_41 : decode cX11_wordHere 41 = .ok (.invokevirtual 97, 3) := by decide +kernel
theorem dX11_wordHere_44 : decode cX11_wordHere 44 = .ok (.iadd, 1) := by decide +kernel
theorem dX11_wordHere_45 : decode cX11_wordHere 45 = .ok (.bipush 97, 2) := by decide +kernel
theorem dX11_wordHere_47 : decode cX11_wordHere 47 = .ok (.isub, 1) := by decide +kernel
theorem dX11_wordHere_48 : decode cX11_wordHere 48 = .ok (.iconst 1, 1) := by decide +kernel
theorem dX11_wordHere_49 : decode cX11_wordHere 49 = .ok (.iadd, 1) := by decide +kernel
theorem dX11_wordHere_50 : decode cX11_wordHere 50 = .ok (.goto 4, 3) := by decide +kernel
theorem dX11_wordHere_53 : decode cX11_wordHere 53 = .ok (.iload_n 1, 1) := by decide +kernel
theorem dX11_wordHere_54 : decode cX11_wordHere 54 = .ok (.istore_n 1, 1) := by decide +kernel
theorem dX11_wordHere_55 : decode cX11_wordHere 55 = .ok (.iinc 2 1, 3) := by decide +kernel
theorem dX11_wordHere_58 : decode cX11_wordHere 58 = .ok (.goto (-50), 3) := by decide +kernel
theorem dX11_wordHere_61 : decode cX11_wordHere 61 = .ok (.iload_n 2, 1) := by decide +kernel
theorem dX11_wordHere_62 : decode cX11_wordHere 62 = .ok (.bipush 6, 2) := by decide +kernel
theorem dX11_wordHere_64 : decode cX11_wordHere 64 = .ok (.if_icmp .le 7, 3) := by decide +kernel
theorem dX11_wordHere_67 : decode cX11_wordHere 67 = .ok (.iconst (-1), 1) := by decide +kernel
theorem dX11_wordHere_68 : decode cX11_wordHere 68 = .ok (.goto 4, 3) := by decide +kernel
theorem dX11_wordHere_71 : decode cX11_wordHere 71 = .ok (.iload_n 1, 1) := by decide +kernel
theorem dX11_wordHere_72 : decode cX11_wordHere 72 = .ok (.ireturn, 1) := by decide +kernel
theorem dX11_six_0 : decode cX11_six 0 = .ok (.iload_n 0, 1) := by decide +kernel
theorem dX11_six_1 : decode cX11_six 1 = .ok (.istore 6, 2) := by decide +kernel
theorem dX11_six_3 : decode cX11_six 3 = .ok (.iload_n 1, 1) := by decide +kernel
theorem dX11_six_4 : decode cX11_six 4 = .ok (.ifCond .ne 8, 3) := by decide +kernel
theorem dX11_six_7 : decode cX11_six 7 = .ok (.iload 6, 2) := by decide +kernel
theorem dX11_six_9 : decode cX11_six 9 = .ok (.goto 10, 3) := by decide +kernel
theorem dX11_six_12 : decode cX11_six 12 = .ok (.bipush 27, 2) := by decide +kernel
theorem dX11_six_14 : decode cX11_six 14 = .ok (.iload 6, 2) := by decide +kernel
theorem dX11_six_16 : decode cX11_six 16 = .ok (.imul, 1) := by decide +kernel
theorem dX11_six_17 : decode cX11_six 17 = .ok (.iload_n 1, 1) := by decide +kernel
theorem dX11_six_18 : decode cX11_six 18 = .ok (.iadd, 1) := by decide +kernel
theorem dX11_six_19 : decode cX11_six 19 = .ok (.istore 6, 2) := by decide +kernel
theorem dX11_six_21 : decode cX11_six 21 = .ok (.iload_n 2, 1) := by decide +kernel
theorem dX11_six_22 : decode cX11_six 22 = .ok (.ifCond .ne 8, 3) := by decide +kernel
theorem dX11_six_25 : decode cX11_six 25 = .ok (.iload 6, 2) := by decide +kernel
theorem dX11_six_27 : decode cX11_six 27 = .ok (.goto 10, 3) := by decide +kernel
theorem dX11_six_30 : decode cX11_six 30 = .ok (.bipush 27, 2) := by decide +kernel
theorem dX11_six_32 : decode cX11_six 32 = .ok (.iload 6, 2) := by decide +kernel
theorem dX11_six_34 : decode cX11_six 34 = .ok (.imul, 1) := by decide +kernel
theorem dX11_six_35 : decode cX11_six 35 = .ok (.iload_n 2, 1) := by decide +kernel
theorem dX11_six_36 : decode cX11_six 36 = .ok (.iadd, 1) := by decide +kernel
theorem dX11_six_37 : decode cX11_six 37 = .ok (.istore 6, 2) := by decide +kernel
theorem dX11_six_39 : decode cX11_six 39 = .ok (.iload_n 3, 1) := by decide +kernel
theorem dX11_six_40 : decode cX11_six 40 = .ok (.ifCond .ne 8, 3) := by decide +kernel
theorem dX11_six_43 : decode cX11_six 43 = .ok (.iload 6, 2) := by decide +kernel
theorem dX11_six_45 : decode cX11_six 45 = .ok (.goto 10, 3) := by decide +kernel
theorem dX11_six_48 : decode cX11_six 48 = .ok (.bipush 27, 2) := by decide +kernel
theorem dX11_six_50 : decode cX11_six 50 = .ok (.iload 6, 2) := by decide +kernel
theorem dX11_six_52 : decode cX11_six 52 = .ok (.imul, 1) := by decide +kernel
theorem dX11_six_53 : decode cX11_six 53 = .ok (.iload_n 3, 1) := by decide +kernel
theorem dX11_six_54 : decode cX11_six 54 = .ok (.iadd, 1) := by decide +kernel
theorem dX11_six_55 : decode cX11_six 55 = .ok (.istore 6, 2) := by decide +kernel
theorem dX11_six_57 : decode cX11_six 57 = .ok (.iload 4, 2) := by decide +kernel
theorem dX11_six_59 : decode cX11_six 59 = .ok (.ifCond .ne 8, 3) := by decide +kernel
theorem dX11_six_62 : decode cX11_six 62 = .ok (.iload 6, 2) := by decide +kernel
theorem dX11_six_64 : decode cX11_six 64 = .ok (.goto 11, 3) := by decide +kernel
theorem dX11_six_67 : decode cX11_six 67 = .ok (.bipush 27, 2) := by decide +kernel
theorem dX11_six_69 : decode cX11_six 69 = .ok (.iload 6, 2) := by decide +kernel
theorem dX11_six_71 : decode cX11_six 71 = .ok (.imul, 1) := by decide +kernel
theorem dX11_six_72 : decode cX11_six 72 = .ok (.iload 4, 2) := by decide +kernel
theorem dX11_six_74 : decode cX11_six 74 = .ok (.iadd, 1) := by decide +kernel
theorem dX11_six_75 : decode cX11_six 75 = .ok (.istore 6, 2) := by decide +kernel
theorem dX11_six_77 : decode cX11_six 77 = .ok (.iload 5, 2) := by decide +kernel
theorem dX11_six_79 : decode cX11_six 79 = .ok (.ifCond .ne 8, 3) := by decide +kernel
theorem dX11_six_82 : decode cX11_six 82 = .ok (.iload 6, 2) := by decide +kernel
theorem dX11_six_84 : decode cX11_six 84 = .ok (.goto 11, 3) := by decide +kernel
theorem dX11_six_87 : decode cX11_six 87 = .ok (.bipush 27, 2) := by decide +kernel
theorem dX11_six_89 : decode cX11_six 89 = .ok (.iload 6, 2) := by decide +kernel
theorem dX11_six_91 : decode cX11_six 91 = .ok (.imul, 1) := by decide +kernel
theorem dX11_six_92 : decode cX11_six 92 = .ok (.iload 5, 2) := by decide +kernel
theorem dX11_six_94 : decode cX11_six 94 = .ok (.iadd, 1) := by decide +kernel
theorem dX11_six_95 : decode cX11_six 95 = .ok (.ireturn, 1) := by decide +kernel
theorem dX11_isWord_0 : decode cX11_isWord 0 = .ok (.aload_n 0, 1) := by decide +kernel
theorem dX11_isWord_1 : decode cX11_isWord 1 = .ok (.getfield 101, 3) := by decide +kernel
theorem dX11_isWord_4 : decode cX11_isWord 4 = .ok (.ifCond .ne 26, 3) := by decide +kernel
theorem dX11_isWord_7 : decode cX11_isWord 7 = .ok (.aload_n 0, 1) := by decide +kernel
theorem dX11_isWord_8 : decode cX11_isWord 8 = .ok (.invokevirtual 126, 3) := by decide +kernel
theorem dX11_isWord_11 : decode cX11_isWord 11 = .ok (.iload_n 1, 1) := by decide +kernel
theorem dX11_isWord_12 : decode cX11_isWord 12 = .ok (.iload_n 2, 1) := by decide +kernel
theorem dX11_isWord_13 : decode cX11_isWord 13 = .ok (.iload_n 3, 1) := by decide +kernel
theorem dX11_isWord_14 : decode cX11_isWord 14 = .ok (.iload 4, 2) := by decide +kernel
theorem dX11_isWord_16 : decode cX11_isWord 16 = .ok (.iload 5, 2) := by decide +kernel
theorem dX11_isWord_18 : decode cX11_isWord 18 = .ok (.iload 6, 2) := by decide +kernel
theorem dX11_isWord_20 : decode cX11_isWord 20 = .ok (.invokestatic 130, 3) := by decide +kernel
theorem dX11_isWord_23 : decode cX11_isWord 23 = .ok (.if_icmp .ne 7, 3) := by decide +kernel
theorem dX11_isWord_26 : decode cX11_isWord 26 = .ok (.iconst 1, 1) := by decide +kernel
theorem dX11_isWord_27 : decode cX11_isWord 27 = .ok (.goto 4, 3) := by decide +kernel
theorem dX11_isWord_30 : decode cX11_isWord 30 = .ok (.iconst 0, 1) := by decide +kernel
theorem dX11_isWord_31 : decode cX11_isWord 31 = .ok (.ireturn, 1) := by decide +kernel
theorem dX11_skipWord_0 : decode cX11_skipWord 0 = .ok (.aload_n 0, 1) := by decide +kernel
theorem dX11_skipWord_1 : decode cX11_skipWord 1 = .ok (.aload_n 0, 1) := by decide +kernel
theorem dX11_skipWord_2 : decode cX11_skipWord 2 = .ok (.getfield 94, 3) := by decide +kernel
theorem dX11_skipWord_5 : decode cX11_skipWord 5 = .ok (.invokevirtual 97, 3) := by decide +kernel
theorem dX11_skipWord_8 : decode cX11_skipWord 8 = .ok (.invokestatic 123, 3) := by decide +kernel
theorem dX11_skipWord_11 : decode cX11_skipWord 11 = .ok (.ifCond .eq 16, 3) := by decide +kernel
theorem dX11_skipWord_14 : decode cX11_skipWord 14 = .ok (.aload_n 0, 1) := by decide +kernel
theorem dX11_skipWord_15 : decode cX11_skipWord 15 = .ok (.dup, 1) := by decide +kernel
theorem dX11_skipWord_16 : decode cX11_skipWord 16 = .ok (.getfield 94, 3) := by decide +kernel
theorem dX11_skipWord_19 : decode cX11_skipWord 19 = .ok (.iconst 1, 1) := by decide +kernel
theorem dX11_skipWord_20 : decode cX11_skipWord 20 = .ok (.iadd, 1) := by decide +kernel
theorem dX11_skipWord_21 : decode cX11_skipWord 21 = .ok (.putfield 94, 3) := by decide +kernel
theorem dX11_skipWord_24 : decode cX11_skipWord 24 = .ok (.goto (-24), 3) := by decide +kernel
theorem dX11_skipWord_27 : decode cX11_skipWord 27 = .ok (.return_, 1) := by decide +kernel
theorem dX11_takes_0 : decode cX11_takes 0 = .ok (.aload_n 0, 1) := by decide +kernel
theorem dX11_takes_1 : decode cX11_takes 1 = .ok (.iload_n 1, 1) := by decide +kernel
theorem dX11_takes_2 : decode cX11_takes 2 = .ok (.iload_n 2, 1) := by decide +kernel
theorem dX11_takes_3 : decode cX11_takes 3 = .ok (.iload_n 3, 1) := by decide +kernel
theorem dX11_takes_4 : decode cX11_takes 4 = .ok (.iload 4, 2) := by decide +kernel
theorem dX11_takes_6 : decode cX11_takes 6 = .ok (.iload 5, 2) := by decide +kernel
theorem dX11_takes_8 : decode cX11_takes 8 = .ok (.iload 6, 2) := by decide +kernel
theorem dX11_takes_10 : decode cX11_takes 10 = .ok (.invokevirtual 134, 3) := by decide +kernel
theorem dX11_takes_13 : decode cX11_takes 13 = .ok (.istore 7, 2) := by decide +kernel
theorem dX11_takes_15 : decode cX11_takes 15 = .ok (.iload 7, 2) := by decide +kernel
theorem dX11_takes_17 : decode cX11_takes 17 = .ok (.ifCond .eq 7, 3) := by decide +kernel
theorem dX11_takes_20 : decode cX11_takes 20 = .ok (.aload_n 0, 1) := by decide +kernel
theorem dX11_takes_21 : decode cX11_takes 21 = .ok (.invokevirtual 138, 3) := by decide +kernel
theorem dX11_takes_24 : decode cX11_takes 24 = .ok (.iload 7, 2) := by decide +kernel
theorem dX11_takes_26 : decode cX11_takes 26 = .ok (.ireturn, 1) := by decide +kernel
theorem dX11_sign_0 : decode cX11_sign 0 = .ok (.aload_n 0, 1) := by decide +kernel
theorem dX11_sign_1 : decode cX11_sign 1 = .ok (.getfield 101, 3) := by decide +kernel
theorem dX11_sign_4 : decode cX11_sign 4 = .ok (.ifCond .eq 4, 3) := by decide +kernel
theorem dX11_sign_7 : decode cX11_sign 7 = .ok (.return_, 1) := by decide +kernel
theorem dX11_sign_8 : decode cX11_sign 8 = .ok (.aload_n 0, 1) := by decide +kernel
theorem dX11_sign_9 : decode cX11_sign 9 = .ok (.invokevirtual 107, 3) := by decide +kernel
theorem dX11_sign_12 : decode cX11_sign 12 = .ok (.aload_n 0, 1) := by decide +kernel
theorem dX11_sign_13 : decode cX11_sign 13 = .ok (.aload_n 0, 1) := by decide +kernel
theorem dX11_sign_14 : decode cX11_sign 14 = .ok (.getfield 94, 3) := by decide +kernel
theorem dX11_sign_17 : decode cX11_sign 17 = .ok (.invokevirtual 97, 3) := by decide +kernel
theorem dX11_sign_20 : decode cX11_sign 20 = .ok (.iload_n 1, 1) := by decide +kernel
theorem dX11_sign_21 : decode cX11_sign 21 = .ok (.if_icmp .ne 16, 3) := by decide +kernel
theorem dX11_sign_24 : decode cX11_sign 24 = .ok (.aload_n 0, 1) := by decide +kernel
theorem dX11_sign_25 : decode cX11_sign 25 = .ok (.dup, 1) := by decide +kernel
theorem dX11_sign_26 : decode cX11_sign 26 = .ok (.getfield 94, 3) := by decide +kernel
theorem dX11_sign_29 : decode cX11_sign 29 = .ok (.iconst 1, 1) := by decide +kernel
theorem dX11_sign_30 : decode cX11_sign 30 = .ok (.iadd, 1) := by decide +kernel
theorem dX11_sign_31 : decode cX11_sign 31 = .ok (.putfield 94, 3) := by decide +kernel
theorem dX11_sign_34 : decode cX11_sign 34 = .ok (.goto 12, 3) := by decide +kernel
theorem dX11_sign_37 : decode cX11_sign 37 = .ok (.aload_n 0, 1) := by decide +kernel
theorem dX11_sign_38 : decode cX11_sign 38 = .ok (.iconst 1, 1) := by decide +kernel
theorem dX11_sign_39 : decode cX11_sign 39 = .ok (.aload_n 0, 1) := by decide +kernel
theorem dX11_sign_40 : decode cX11_sign 40 = .ok (.getfield 94, 3) := by decide +kernel
theorem dX11_sign_43 : decode cX11_sign 43 = .ok (.invokevirtual 114, 3) := by decide +kernel
theorem dX11_sign_46 : decode cX11_sign 46 = .ok (.return_, 1) := by decide +kernel
theorem dX11_takesSign_0 : decode cX11_takesSign 0 = .ok (.aload_n 0, 1) := by decide +kernel
theorem dX11_takesSign_1 : decode cX11_takesSign 1 = .ok (.getfield 101, 3) := by decide +kernel
theorem dX11_takesSign_4 : decode cX11_takesSign 4 = .ok (.ifCond .eq 5, 3) := by decide +kernel
theorem dX11_takesSign_7 : decode cX11_takesSign 7 = .ok (.iconst 0, 1) := by decide +kernel
theorem dX11_takesSign_8 : decode cX11_takesSign 8 = .ok (.ireturn, 1) := by decide +kernel
theorem dX11_takesSign_9 : decode cX11_takesSign 9 = .ok (.aload_n 0, 1) := by decide +kernel
theorem dX11_takesSign_10 : decode cX11_takesSign 10 = .ok (.invokevirtual 107, 3) := by decide +kernel
theorem dX11_takesSign_13 : decode cX11_takesSign 13 = .ok (.aload_n 0, 1) := by decide +kernel
theorem dX11_takesSign_14 : decode cX11_takesSign 14 = .ok (.aload_n 0, 1) := by decide +kernel
theorem dX11_takesSign_15 : decode cX11_takesSign 15 = .ok (.getfield 94, 3) := by decide +kernel
theorem dX11_takesSign_18 : decode cX11_takesSign 18 = .ok (.invokevirtual 97, 3) := by decide +kernel
theorem dX11_takesSign_21 : decode cX11_takesSign 21 = .ok (.iload_n 1, 1) := by decide +kernel
theorem dX11_takesSign_22 : decode cX11_takesSign 22 = .ok (.if_icmp .ne 7, 3) := by decide +kernel
theorem dX11_takesSign_25 : decode cX11_takesSign 25 = .ok (.iconst 1, 1) := by decide +kernel
theorem dX11_takesSign_26 : decode cX11_takesSign 26 = .ok (.goto 4, 3) := by decide +kernel
theorem dX11_takesSign_29 : decode cX11_takesSign 29 = .ok (.iconst 0, 1) := by decide +kernel
theorem dX11_takesSign_30 : decode cX11_takesSign 30 = .ok (.istore_n 2, 1) := by decide +kernel
theorem dX11_takesSign_31 : decode cX11_takesSign 31 = .ok (.iload_n 2, 1) := by decide +kernel
theorem dX11_takesSign_32 : decode cX11_takesSign 32 = .ok (.ifCond .eq 13, 3) := by decide +kernel
theorem dX11_takesSign_35 : decode cX11_takesSign 35 = .ok (.aload_n 0, 1) := by decide +kernel
theorem dX11_takesSign_36 : decode cX11_takesSign 36 = .ok (.dup, 1) := by decide +kernel
theorem dX11_takesSign_37 : decode cX11_takesSign 37 = .ok (.getfield 94, 3) := by decide +kernel
theorem dX11_takesSign_40 : decode cX11_takesSign 40 = .ok (.iconst 1, 1) := by decide +kernel
theorem dX11_takesSign_41 : decode cX11_takesSign 41 = .ok (.iadd, 1) := by decide +kernel
theorem dX11_takesSign_42 : decode cX11_takesSign 42 = .ok (.putfield 94, 3) := by decide +kernel
theorem dX11_takesSign_45 : decode cX11_takesSign 45 = .ok (.iload_n 2, 1) := by decide +kernel
theorem dX11_takesSign_46 : decode cX11_takesSign 46 = .ok (.ireturn, 1) := by decide +kernel
theorem dX11_starts_0 : decode cX11_starts 0 = .ok (.aload_n 0, 1) := by decide +kernel
theorem dX11_starts_1 : decode cX11_starts 1 = .ok (.iconst 0, 1) := by decide +kernel
theorem dX11_starts_2 : decode cX11_starts 2 = .ok (.putfield 88, 3) := by decide +kernel
theorem dX11_starts_5 : decode cX11_starts 5 = .ok (.aload_n 0, 1) := by decide +kernel
theorem dX11_starts_6 : decode cX11_starts 6 = .ok (.iload_n 1, 1) := by decide +kernel
theorem dX11_starts_7 : decode cX11_starts 7 = .ok (.putfield 91, 3) := by decide +kernel
theorem dX11_starts_10 : decode cX11_starts 10 = .ok (.aload_n 0, 1) := by decide +kernel
theorem dX11_starts_11 : decode cX11_starts 11 = .ok (.iconst 0, 1) := by decide +kernel
theorem dX11_starts_12 : decode cX11_starts 12 = .ok (.putfield 94, 3) := by decide +kernel
theorem dX11_starts_15 : decode cX11_starts 15 = .ok (.aload_n 0, 1) := by decide +kernel
theorem dX11_starts_16 : decode cX11_starts 16 = .ok (.iconst 0, 1) := by decide +kernel
theorem dX11_starts_17 : decode cX11_starts 17 = .ok (.putfield 101, 3) := by decide +kernel
theorem dX11_starts_20 : decode cX11_starts 20 = .ok (.aload_n 0, 1) := by decide +kernel
theorem dX11_starts_21 : decode cX11_starts 21 = .ok (.iconst (-1), 1) := by decide +kernel
theorem dX11_starts_22 : decode cX11_starts 22 = .ok (.putfield 104, 3) := by decide +kernel
theorem dX11_starts_25 : decode cX11_starts 25 = .ok (.aload_n 0, 1) := by decide +kernel
theorem dX11_starts_26 : decode cX11_starts 26 = .ok (.iconst 0, 1) := by decide +kernel
theorem dX11_starts_27 : decode cX11_starts 27 = .ok (.putfield 141, 3) := by decide +kernel
theorem dX11_starts_30 : decode cX11_starts 30 = .ok (.aload_n 0, 1) := by decide +kernel
theorem dX11_starts_31 : decode cX11_starts 31 = .ok (.iconst 0, 1) := by decide +kernel
theorem dX11_starts_32 : decode cX11_starts 32 = .ok (.putfield 144, 3) := by decide +kernel
theorem dX11_starts_35 : decode cX11_starts 35 = .ok (.aload_n 0, 1) := by decide +kernel
theorem dX11_starts_36 : decode cX11_starts 36 = .ok (.invokevirtual 107, 3) := by decide +kernel
theorem dX11_starts_39 : decode cX11_starts 39 = .ok (.return_, 1) := by decide +kernel
theorem dX11_ends_0 : decode cX11_ends 0 = .ok (.aload_n 0, 1) := by decide +kernel
theorem dX11_ends_1 : decode cX11_ends 1 = .ok (.aload_n 0, 1) := by decide +kernel
theorem dX11_ends_2 : decode cX11_ends 2 = .ok (.getfield 104, 3) := by decide +kernel
theorem dX11_ends_5 : decode cX11_ends 5 = .ok (.putfield 9, 3) := by decide +kernel
theorem dX11_ends_8 : decode cX11_ends 8 = .ok (.aload_n 0, 1) := by decide +kernel
theorem dX11_ends_9 : decode cX11_ends 9 = .ok (.getfield 101, 3) := by decide +kernel
theorem dX11_ends_12 : decode cX11_ends 12 = .ok (.bipush 10, 2) := by decide +kernel
theorem dX11_ends_14 : decode cX11_ends 14 = .ok (.isub, 1) := by decide +kernel
theorem dX11_ends_15 : decode cX11_ends 15 = .ok (.ireturn, 1) := by decide +kernel
theorem dX11_kindHere_0 : decode cX11_kindHere 0 = .ok (.aload_n 0, 1) := by decide +kernel
theorem dX11_kindHere_1 : decode cX11_kindHere 1 = .ok (.bipush 16, 2) := by decide +kernel
theorem dX11_kindHere_3 : decode cX11_kindHere 3 = .ok (.iconst 1, 1) := by decide +kernel
theorem dX11_kindHere_4 : decode cX11_kindHere 4 = .ok (.bipush 14, 2) := by decide +kernel
theorem dX11_kindHere_6 : decode cX11_kindHere 6 = .ok (.iconst 5, 1) := by decide +kernel
theorem dX11_kindHere_7 : decode cX11_kindHere 7 = .ok (.iconst 0, 1) := by decide +kernel
theorem dX11_kindHere_8 : decode cX11_kindHere 8 = .ok (.iconst 0, 1) := by decide +kernel
theorem dX11_kindHere_9 : decode cX11_kindHere 9 = .ok (.invokevirtual 134, 3) := by decide +kernel
theorem dX11_kindHere_12 : decode cX11_kindHere 12 = .ok (.ifCond .eq 5, 3) := by decide +kernel
theorem dX11_kindHere_15 : decode cX11_kindHere 15 = .ok (.iconst 0, 1) := by decide +kernel
theorem dX11_kindHere_16 : decode cX11_kindHere 16 = .ok (.ireturn, 1) := by decide +kernel
theorem dX11_kindHere_17 : decode cX11_kindHere 17 = .ok (.aload_n 0, 1) := by decide +kernel
theorem dX11_kindHere_18 : decode cX11_kindHere 18 = .ok (.bipush 15, 2) := by decide +kernel
theorem dX11_kindHere_20 : decode cX11_kindHere 20 = .ok (.bipush 18, 2) := by decide +kernel
theorem dX11_kindHere_22 : decode cX11_kindHere 22 = .ok (.iconst 4, 1) := by decide +kernel
theorem dX11_kindHere_23 : decode cX11_kindHere 23 = .ok (.iconst 5, 1) := by decide +kernel
theorem dX11_kindHere_24 : decode cX11_kindHere 24 = .ok (.bipush 18, 2) := by decide +kernel
theorem dX11_kindHere_26 : decode cX11_kindHere 26 = .ok (.iconst 0, 1) := by decide +kernel
theorem dX11_kindHere_27 : decode cX11_kindHere 27 = .ok (.invokevirtual 134, 3) := by decide +kernel
theorem dX11_kindHere_30 : decode cX11_kindHere 30 = .ok (.ifCond .eq 5, 3) := by decide +kernel
theorem dX11_kindHere_33 : decode cX11_kindHere 33 = .ok (.iconst 1, 1) := by decide +kernel
theorem dX11_kindHere_34 : decode cX11_kindHere 34 = .ok (.ireturn, 1) := by decide +kernel
theorem dX11_kindHere_35 : decode cX11_kindHere 35 = .ok (.aload_n 0, 1) := by decide +kernel
theorem dX11_kindHere_36 : decode cX11_kindHere 36 = .ok (.bipush 18, 2) := by decide +kernel
theorem dX11_kindHere_38 : decode cX11_kindHere 38 = .ok (.iconst 1, 1) := by decide +kernel
theorem dX11_kindHere_39 : decode cX11_kindHere 39 = .ok (.bipush 9, 2) := by decide +kernel
theorem dX11_kindHere_41 : decode cX11_kindHere 41 = .ok (.bipush 14, 2) := by decide +kernel
theorem dX11_kindHere_43 : decode cX11_kindHere 43 = .ok (.iconst 0, 1) := by decide +kernel
theorem dX11_kindHere_44 : decode cX11_kindHere 44 = .ok (.iconst 0, 1) := by decide +kernel
theorem dX11_kindHere_45 : decode cX11_kindHere 45 = .ok (.invokevirtual 134, 3) := by decide +kernel
theorem dX11_kindHere_48 : decode cX11_kindHere 48 = .ok (.ifCond .eq 5, 3) := by decide +kernel
theorem dX11_kindHere_51 : decode cX11_kindHere 51 = .ok (.iconst 2, 1) := by decide +kernel
theorem dX11_kindHere_52 : decode cX11_kindHere 52 = .ok (.ireturn, 1) := by decide +kernel
theorem dX11_kindHere_53 : decode cX11_kindHere 53 = .ok (.aload_n 0, 1) := by decide +kernel
theorem dX11_kindHere_54 : decode cX11_kindHere 54 = .ok (.bipush 16, 2) := by decide +kernel
theorem dX11_kindHere_56 : decode cX11_kindHere 56 = .ok (.iconst 1, 1) := by decide +kernel
theorem dX11_kindHere_57 : decode cX11_kindHere 57 = .ok (.iconst 3, 1) := by decide +kernel
theorem dX11_kindHere_58 : decode cX11_kindHere 58 = .ok (.iconst 5, 1) := by decide +kernel
theorem dX11_kindHere_59 : decode cX11_kindHere 59 = .ok (.iconst 0, 1) := by decide +kernel
theorem dX11_kindHere_60 : decode cX11_kindHere 60 = .ok (.iconst 0, 1) := by decide +kernel
theorem dX11_kindHere_61 : decode cX11_kindHere 61 = .ok (.invokevirtual 134, 3) := by decide +kernel
theorem dX11_kindHere_64 : decode cX11_kindHere 64 = .ok (.ifCond .eq 5, 3) := by decide +kernel
theorem dX11_kindHere_67 : decode cX11_kindHere 67 = .ok (.iconst 3, 1) := by decide +kernel
theorem dX11_kindHere_68 : decode cX11_kindHere 68 = .ok (.ireturn, 1) := by decide +kernel
theorem dX11_kindHere_69 : decode cX11_kindHere 69 = .ok (.aload_n 0, 1) := by decide +kernel
theorem dX11_kindHere_70 : decode cX11_kindHere 70 = .ok (.bipush 8, 2) := by decide +kernel
theorem dX11_kindHere_72 : decode cX11_kindHere 72 = .ok (.bipush 15, 2) := by decide +kernel
theorem dX11_kindHere_74 : decode cX11_kindHere 74 = .ok (.bipush 12, 2) := by decide +kernel
theorem dX11_kindHere_76 : decode cX11_kindHere 76 = .ok (.iconst 4, 1) := by decide +kernel
theorem dX11_kindHere_77 : decode cX11_kindHere 77 = .ok (.iconst 0, 1) := by decide +kernel
theorem dX11_kindHere_78 : decode cX11_kindHere 78 = .ok (.iconst 0, 1) := by decide +kernel
theorem dX11_kindHere_79 : decode cX11_kindHere 79 = .ok (.invokevirtual 134, 3) := by decide +kernel
theorem dX11_kindHere_82 : decode cX11_kindHere 82 = .ok (.ifCond .eq 7, 3) := by decide +kernel
theorem dX11_kindHere_85 : decode cX11_kindHere 85 = .ok (.iconst 4, 1) := by decide +kernel
theorem dX11_kindHere_86 : decode cX11_kindHere 86 = .ok (.goto 4, 3) := by decide +kernel
theorem dX11_kindHere_89 : decode cX11_kindHere 89 = .ok (.iconst (-1), 1) := by decide +kernel
theorem dX11_kindHere_90 : decode cX11_kindHere 90 = .ok (.ireturn, 1) := by decide +kernel
theorem dX11_clause_0 : decode cX11_clause 0 = .ok (.aload_n 0, 1) := by decide +kernel
theorem dX11_clause_1 : decode cX11_clause 1 = .ok (.invokevirtual 147, 3) := by decide +kernel
theorem dX11_clause_4 : decode cX11_clause 4 = .ok (.istore_n 1, 1) := by decide +kernel
theorem dX11_clause_5 : decode cX11_clause 5 = .ok (.iload_n 1, 1) := by decide +kernel
theorem dX11_clause_6 : decode cX11_clause 6 = .ok (.iconst (-1), 1) := by decide +kernel
theorem dX11_clause_7 : decode cX11_clause 7 = .ok (.if_icmp .ne 15, 3) := by decide +kernel
theorem dX11_clause_10 : decode cX11_clause 10 = .ok (.aload_n 0, 1) := by decide +kernel
theorem dX11_clause_11 : decode cX11_clause 11 = .ok (.iconst 1, 1) := by decide +kernel
theorem dX11_clause_12 : decode cX11_clause 12 = .ok (.aload_n 0, 1) := by decide +kernel
theorem dX11_clause_13 : decode cX11_clause 13 = .ok (.getfield 94, 3) := by decide +kernel
theorem dX11_clause_16 : decode cX11_clause 16 = .ok (.invokevirtual 114, 3) := by decide +kernel
theorem dX11_clause_19 : decode cX11_clause 19 = .ok (.goto 67, 3) := by decide +kernel
theorem dX11_clause_22 : decode cX11_clause 22 = .ok (.aload_n 0, 1) := by decide +kernel
theorem dX11_clause_23 : decode cX11_clause 23 = .ok (.getfield 141, 3) := by decide +kernel
theorem dX11_clause_26 : decode cX11_clause 26 = .ok (.bipush 60, 2) := by decide +kernel
theorem dX11_clause_28 : decode cX11_clause 28 = .ok (.if_icmp .eq 49, 3) := by decide +kernel
theorem dX11_clause_31 : decode cX11_clause 31 = .ok (.iload_n 1, 1) := by decide +kernel
theorem dX11_clause_32 : decode cX11_clause 32 = .ok (.ifCond .ne 13, 3) := by decide +kernel
theorem dX11_clause_35 : decode cX11_clause 35 = .ok (.aload_n 0, 1) := by decide +kernel
theorem dX11_clause_36 : decode cX11_clause 36 = .ok (.getfield 20, 3) := by decide +kernel
theorem dX11_clause_39 : decode cX11_clause 39 = .ok (.iconst 0, 1) := by decide +kernel
theorem dX11_clause_40 : decode cX11_clause 40 = .ok (.iaload, 1) := by decide +kernel
theorem dX11_clause_41 : decode cX11_clause 41 = .ok (.iconst 5, 1) := by decide +kernel
theorem dX11_clause_42 : decode cX11_clause 42 = .ok (.if_icmp .eq 35, 3) := by decide +kernel
theorem dX11_clause_45 : decode cX11_clause 45 = .ok (.iload_n 1, 1) := by decide +kernel
theorem dX11_clause_46 : decode cX11_clause 46 = .ok (.iconst 1, 1) := by decide +kernel
theorem dX11_clause_47 : decode cX11_clause 47 = .ok (.if_icmp .ne 14, 3) := by decide +kernel
theorem dX11_clause_50 : decode cX11_clause 50 = .ok (.aload_n 0, 1) := by decide +kernel
theorem dX11_clause_51 : decode cX11_clause 51 = .ok (.getfield 20, 3) := by decide +kernel
theorem dX11_clause_54 : decode cX11_clause 54 = .ok (.iconst 1, 1) := by decide +kernel
theorem dX11_clause_55 : decode cX11_clause 55 = .ok (.iaload, 1) := by decide +kernel
theorem dX11_clause_56 : decode cX11_clause 56 = .ok (.bipush 12, 2) := by decide +kernel
theorem dX11_clause_58 : decode cX11_clause 58 = .ok (.if_icmp .eq 19, 3) := by decide +kernel
theorem dX11_clause_61 : decode cX11_clause 61 = .ok (.iload_n 1, 1) := by decide +kernel
theorem dX11_clause_62 : decode cX11_clause 62 = .ok (.iconst 2, 1) := by decide +kernel
theorem dX11_clause_63 : decode cX11_clause 63 = .ok (.if_icmp .ne 23, 3) := by decide +kernel
theorem dX11_clause_66 : decode cX11_clause 66 = .ok (.aload_n 0, 1) := by decide +kernel
theorem dX11_clause_67 : decode cX11_clause 67 = .ok (.getfield 20, 3) := by decide +kernel
theorem dX11_clause_70 : decode cX11_clause 70 = .ok (.iconst 2, 1) := by decide +kernel
theorem dX11_clause_71 : decode cX11_clause 71 = .ok (.iaload, 1) := by decide +kernel
theorem dX11_clause_72 : decode cX11_clause 72 = .ok (.bipush 12, 2) := by decide +kernel
theorem dX11_clause_74 : decode cX11_clause 74 = .ok (.if_icmp .ne 12, 3) := by decide +kernel
theorem dX11_clause_77 : decode cX11_clause 77 = .ok (.aload_n 0, 1) := by decide +kernel
theorem dX11_clause_78 : decode cX11_clause 78 = .ok (.iconst 3, 1) := by decide +kernel
theorem dX11_clause_79 : decode cX11_clause 79 = .ok (.aload_n 0, 1) := by decide +kernel
theorem dX11_clause_80 : decode cX11_clause 80 = .ok (.getfield 94, 3) := by decide +kernel
theorem dX11_clause_83 : decode cX11_clause 83 = .ok (.invokevirtual 114, 3) := by decide +kernel
theorem dX11_clause_86 : decode cX11_clause 86 = .ok (.aload_n 0, 1) := by decide +kernel
theorem dX11_clause_87 : decode cX11_clause 87 = .ok (.getfield 101, 3) := by decide +kernel
theorem dX11_clause_90 : decode cX11_clause 90 = .ok (.ifCond .eq 4, 3) := by decide +kernel
theorem dX11_clause_93 : decode cX11_clause 93 = .ok (.return_, 1) := by decide +kernel
theorem dX11_clause_94 : decode cX11_clause 94 = .ok (.aload_n 0, 1) := by decide +kernel
theorem dX11_clause_95 : decode cX11_clause 95 = .ok (.invokevirtual 138, 3) := by decide +kernel
theorem dX11_clause_98 : decode cX11_clause 98 = .ok (.aload_n 0, 1) := by decide +kernel
theorem dX11_clause_99 : decode cX11_clause 99 = .ok (.dup, 1) := by decide +kernel
theorem dX11_clause_100 : decode cX11_clause 100 = .ok (.getfield 141, 3) := by decide +kernel
theorem dX11_clause_103 : decode cX11_clause 103 = .ok (.iconst 1, 1) := by decide +kernel
theorem dX11_clause_104 : decode cX11_clause 104 = .ok (.iadd, 1) := by decide +kernel
theorem dX11_clause_105 : decode cX11_clause 105 = .ok (.putfield 141, 3) := by decide +kernel
theorem dX11_clause_108 : decode cX11_clause 108 = .ok (.iload_n 1, 1) := by decide +kernel
theorem dX11_clause_109 : decode cX11_clause 109 = .ok (.tableswitch 268 0 3 #[31, 84, 189, 225], 31) := by decide +kernel
theorem dX11_clause_140 : decode cX11_clause 140 = .ok (.aload_n 0, 1) := by decide +kernel
theorem dX11_clause_141 : decode cX11_clause 141 = .ok (.getfield 28, 3) := by decide +kernel
theorem dX11_clause_144 : decode cX11_clause 144 = .ok (.aload_n 0, 1) := by decide +kernel
theorem dX11_clause_145 : decode cX11_clause 145 = .ok (.getfield 20, 3) := by decide +kernel
theorem dX11_clause_148 : decode cX11_clause 148 = .ok (.iconst 0, 1) := by decide +kernel
theorem dX11_clause_149 : decode cX11_clause 149 = .ok (.iaload, 1) := by decide +kernel
theorem dX11_clause_150 : decode cX11_clause 150 = .ok (.aaload, 1) := by decide +kernel
theorem dX11_clause_151 : decode cX11_clause 151 = .ok (.astore_n 2, 1) := by decide +kernel
theorem dX11_clause_152 : decode cX11_clause 152 = .ok (.aload_n 2, 1) := by decide +kernel
theorem dX11_clause_153 : decode cX11_clause 153 = .ok (.iconst 0, 1) := by decide +kernel
theorem dX11_clause_154 : decode cX11_clause 154 = .ok (.aload_n 0, 1) := by decide +kernel
theorem dX11_clause_155 : decode cX11_clause 155 = .ok (.iconst 1, 1) := by decide +kernel
theorem dX11_clause_156 : decode cX11_clause 156 = .ok (.iconst 4, 1) := by decide +kernel
theorem dX11_clause_157 : decode cX11_clause 157 = .ok (.invokevirtual 150, 3) := by decide +kernel
theorem dX11_clause_160 : decode cX11_clause 160 = .ok (.iastore, 1) := by decide +kernel
theorem dX11_clause_161 : decode cX11_clause 161 = .ok (.aload_n 2, 1) := by decide +kernel
theorem dX11_clause_162 : decode cX11_clause 162 = .ok (.iconst 1, 1) := by decide +kernel
theorem dX11_clause_163 : decode cX11_clause 163 = .ok (.aload_n 0, 1) := by decide +kernel
theorem dX11_clause_164 : decode cX11_clause 164 = .ok (.iconst 1, 1) := by decide +kernel
theorem dX11_clause_165 : decode cX11_clause 165 = .ok (.iconst 4, 1) := by decide +kernel
theorem dX11_clause_166 : decode cX11_clause 166 = .ok (.invokevirtual 150, 3) := by decide +kernel
theorem dX11_clause_169 : decode cX11_clause 169 = .ok (.iastore, 1) := by decide +kernel
theorem dX11_clause_170 : decode cX11_clause 170 = .ok (.aload_n 2, 1) := by decide +kernel
theorem dX11_clause_171 : decode cX11_clause 171 = .ok (.iconst 2, 1) := by decide +kernel
theorem dX11_clause_172 : decode cX11_clause 172 = .ok (.aload_n 0, 1) := by decide +kernel
theorem dX11_clause_173 : decode cX11_clause 173 = .ok (.iconst 0, 1) := by decide +kernel
theorem dX11_clause_174 : decode cX11_clause 174 = .ok (.bipush 60, 2) := by decide +kernel
theorem dX11_clause_176 : decode cX11_clause 176 = .ok (.invokevirtual 150, 3) := by decide +kernel
theorem dX11_clause_179 : decode cX11_clause 179 = .ok (.iastore, 1) := by decide +kernel
theorem dX11_clause_180 : decode cX11_clause 180 = .ok (.aload_n 2, 1) := by decide +kernel
theorem dX11_clause_181 : decode cX11_clause 181 = .ok (.iconst 3, 1) := by decide +kernel
theorem dX11_clause_182 : decode cX11_clause 182 = .ok (.aload_n 0, 1) := by decide +kernel
theorem dX11_clause_183 : decode cX11_clause 183 = .ok (.iconst 0, 1) := by decide +kernel
theorem dX11_clause_184 : decode cX11_clause 184 = .ok (.bipush 9, 2) := by decide +kernel
theorem dX11_clause_186 : decode cX11_clause 186 = .ok (.invokevirtual 150, 3) := by decide +kernel
theorem dX11_clause_189 : decode cX11_clause 189 = .ok (.iastore, 1) := by decide +kernel
theorem dX11_clause_190 : decode cX11_clause 190 = .ok (.goto 212, 3) := by decide +kernel
theorem dX11_clause_193 : decode cX11_clause 193 = .ok (.aload_n 0, 1) := by decide +kernel
theorem dX11_clause_194 : decode cX11_clause 194 = .ok (.getfield 40, 3) := by decide +kernel
theorem dX11_clause_197 : decode cX11_clause 197 = .ok (.aload_n 0, 1) := by decide +kernel
theorem dX11_clause_198 : decode cX11_clause 198 = .ok (.getfield 20, 3) := by decide +kernel
theorem dX11_clause_201 : decode cX11_clause 201 = .ok (.iconst 1, 1) := by decide +kernel
theorem dX11_clause_202 : decode cX11_clause 202 = .ok (.iaload, 1) := by decide +kernel
theorem dX11_clause_203 : decode cX11_clause 203 = .ok (.aaload, 1) := by decide +kernel
theorem dX11_clause_204 : decode cX11_clause 204 = .ok (.astore_n 2, 1) := by decide +kernel
theorem dX11_clause_205 : decode cX11_clause 205 = .ok (.aload_n 2, 1) := by decide +kernel
theorem dX11_clause_206 : decode cX11_clause 206 = .ok (.iconst 0, 1) := by decide +kernel
theorem dX11_clause_207 : decode cX11_clause 207 = .ok (.aload_n 0, 1) := by decide +kernel
theorem dX11_clause_208 : decode cX11_clause 208 = .ok (.iconst 0, 1) := by decide +kernel
theorem dX11_clause_209 : decode cX11_clause 209 = .ok (.aload_n 0, 1) := by decide +kernel
theorem dX11_clause_210 : decode cX11_clause 210 = .ok (.getfield 20, 3) := by decide +kernel
theorem dX11_clause_213 : decode cX11_clause 213 = .ok (.iconst 0, 1) := by decide +kernel
theorem dX11_clause_214 : decode cX11_clause 214 = .ok (.iaload, 1) := by decide +kernel
theorem dX11_clause_215 : decode cX11_clause 215 = .ok (.iconst 1, 1) := by decide +kernel
theorem dX11_clause_216 : decode cX11_clause 216 = .ok (.isub, 1) := by decide +kernel
theorem dX11_clause_217 : decode cX11_clause 217 = .ok (.invokevirtual 150, 3) := by decide +kernel
theorem dX11_clause_220 : decode cX11_clause 220 = .ok (.iastore, 1) := by decide +kernel
theorem dX11_clause_221 : decode cX11_clause 221 = .ok (.aload_n 0, 1) := by decide +kernel
theorem dX11_clause_222 : decode cX11_clause 222 = .ok (.getfield 101, 3) := by decide +kernel
theorem dX11_clause_225 : decode cX11_clause 225 = .ok (.ifCond .eq 6, 3) := by decide +kernel
theorem dX11_clause_228 : decode cX11_clause 228 = .ok (.goto 174, 3) := by decide +kernel
theorem dX11_clause_231 : decode cX11_clause 231 = .ok (.aload_n 2, 1) := by decide +kernel
theorem dX11_clause_232 : decode cX11_clause 232 = .ok (.iconst 1, 1) := by decide +kernel
theorem dX11_clause_233 : decode cX11_clause 233 = .ok (.aload_n 0, 1) := by decide +kernel
theorem dX11_clause_234 : decode cX11_clause 234 = .ok (.iconst 0, 1) := by decide +kernel
theorem dX11_clause_235 : decode cX11_clause 235 = .ok (.aload_n 0, 1) := by decide +kernel
theorem dX11_clause_236 : decode cX11_clause 236 = .ok (.getfield 28, 3) := by decide +kernel
theorem dX11_clause_239 : decode cX11_clause 239 = .ok (.aload_n 2, 1) := by decide +kernel
theorem dX11_clause_240 : decode cX11_clause 240 = .ok (.iconst 0, 1) := by decide +kernel
theorem dX11_clause_241 : decode cX11_clause 241 = .ok (.iaload, 1) := by decide +kernel
theorem dX11_clause_242 : decode cX11_clause 242 = .ok (.aaload, 1) := by decide +kernel
theorem dX11_clause_243 : decode cX11_clause 243 = .ok (.iconst 0, 1) := by decide +kernel
theorem dX11_clause_244 : decode cX11_clause 244 = .ok (.iaload, 1) := by decide +kernel
theorem dX11_clause_245 : decode cX11_clause 245 = .ok (.iconst 1, 1) := by decide +kernel
theorem dX11_clause_246 : decode cX11_clause 246 = .ok (.isub, 1) := by decide +kernel
theorem dX11_clause_247 : decode cX11_clause 247 = .ok (.invokevirtual 150, 3) := by decide +kernel
theorem dX11_clause_250 : decode cX11_clause 250 = .ok (.iastore, 1) := by decide +kernel
theorem dX11_clause_251 : decode cX11_clause 251 = .ok (.aload_n 2, 1) := by decide +kernel
theorem dX11_clause_252 : decode cX11_clause 252 = .ok (.iconst 2, 1) := by decide +kernel
theorem dX11_clause_253 : decode cX11_clause 253 = .ok (.aload_n 0, 1) := by decide +kernel
theorem dX11_clause_254 : decode cX11_clause 254 = .ok (.iconst 0, 1) := by decide +kernel
theorem dX11_clause_255 : decode cX11_clause 255 = .ok (.aload_n 0, 1) := by decide +kernel
theorem dX11_clause_256 : decode cX11_clause 256 = .ok (.getfield 28, 3) := by decide +kernel
theorem dX11_clause_259 : decode cX11_clause 259 = .ok (.aload_n 2, 1) := by decide +kernel
theorem dX11_clause_260 : decode cX11_clause 260 = .ok (.iconst 0, 1) := by decide +kernel
theorem dX11_clause_261 : decode cX11_clause 261 = .ok (.iaload, 1) := by decide +kernel
theorem dX11_clause_262 : decode cX11_clause 262 = .ok (.aaload, 1) := by decide +kernel
theorem dX11_clause_263 : decode cX11_clause 263 = .ok (.iconst 1, 1) := by decide +kernel
theorem dX11_clause_264 : decode cX11_clause 264 = .ok (.iaload, 1) := by decide +kernel
theorem dX11_clause_265 : decode cX11_clause 265 = .ok (.iconst 1, 1) := by decide +kernel
theorem dX11_clause_266 : decode cX11_clause 266 = .ok (.isub, 1) := by decide +kernel
theorem dX11_clause_267 : decode cX11_clause 267 = .ok (.invokevirtual 150, 3) := by decide +kernel
theorem dX11_clause_270 : decode cX11_clause 270 = .ok (.iastore, 1) := by decide +kernel
theorem dX11_clause_271 : decode cX11_clause 271 = .ok (.aload_n 2, 1) := by decide +kernel
theorem dX11_clause_272 : decode cX11_clause 272 = .ok (.iconst 3, 1) := by decide +kernel
theorem dX11_clause_273 : decode cX11_clause 273 = .ok (.aload_n 0, 1) := by decide +kernel
theorem dX11_clause_274 : decode cX11_clause 274 = .ok (.iconst 1, 1) := by decide +kernel
theorem dX11_clause_275 : decode cX11_clause 275 = .ok (.sipush 200, 3) := by decide +kernel
theorem dX11_clause_278 : decode cX11_clause 278 = .ok (.invokevirtual 150, 3) := by decide +kernel
theorem dX11_clause_281 : decode cX11_clause 281 = .ok (.iastore, 1) := by decide +kernel
theorem dX11_clause_282 : decode cX11_clause 282 = .ok (.aload_n 2, 1) := by decide +kernel
theorem dX11_clause_283 : decode cX11_clause 283 = .ok (.iconst 4, 1) := by decide +kernel
theorem dX11_clause_284 : decode cX11_clause 284 = .ok (.aload_n 0, 1) := by decide +kernel
theorem dX11_clause_285 : decode cX11_clause 285 = .ok (.aload_n 2, 1) := by decide +kernel
theorem dX11_clause_286 : decode cX11_clause 286 = .ok (.iconst 3, 1) := by decide +kernel
theorem dX11_clause_287 : decode cX11_clause 287 = .ok (.iaload, 1) := by decide +kernel
theorem dX11_clause_288 : decode cX11_clause 288 = .ok (.sipush 200, 3) := by decide +kernel
theorem dX11_clause_291 : decode cX11_clause 291 = .ok (.invokevirtual 150, 3) := by decide +kernel
theorem dX11_clause_294 : decode cX11_clause 294 = .ok (.iastore, 1) := by decide +kernel
theorem dX11_clause_295 : decode cX11_clause 295 = .ok (.goto 107, 3) := by decide +kernel
theorem dX11_clause_298 : decode cX11_clause 298 = .ok (.aload_n 0, 1) := by decide +kernel
theorem dX11_clause_299 : decode cX11_clause 299 = .ok (.getfield 34, 3) := by decide +kernel
theorem dX11_clause_302 : decode cX11_clause 302 = .ok (.aload_n 0, 1) := by decide +kernel
theorem dX11_clause_303 : decode cX11_clause 303 = .ok (.getfield 20, 3) := by decide +kernel
theorem dX11_clause_306 : decode cX11_clause 306 = .ok (.iconst 2, 1) := by decide +kernel
theorem dX11_clause_307 : decode cX11_clause 307 = .ok (.iaload, 1) := by decide +kernel
theorem dX11_clause_308 : decode cX11_clause 308 = .ok (.aaload, 1) := by decide +kernel
theorem dX11_clause_309 : decode cX11_clause 309 = .ok (.astore_n 2, 1) := by decide +kernel
theorem dX11_clause_310 : decode cX11_clause 310 = .ok (.aload_n 2, 1) := by decide +kernel
theorem dX11_clause_311 : decode cX11_clause 311 = .ok (.iconst 0, 1) := by decide +kernel
theorem dX11_clause_312 : decode cX11_clause 312 = .ok (.aload_n 0, 1) := by decide +kernel
theorem dX11_clause_313 : decode cX11_clause 313 = .ok (.iconst 1, 1) := by decide +kernel
theorem dX11_clause_314 : decode cX11_clause 314 = .ok (.sipush 200, 3) := by decide +kernel
theorem dX11_clause_317 : decode cX11_clause 317 = .ok (.invokevirtual 150, 3) := by decide +kernel
theorem dX11_clause_320 : decode cX11_clause 320 = .ok (.iastore, 1) := by decide +kernel
theorem dX11_clause_321 : decode cX11_clause 321 = .ok (.aload_n 2, 1) := by decide +kernel
theorem dX11_clause_322 : decode cX11_clause 322 = .ok (.iconst 1, 1) := by decide +kernel
theorem dX11_clause_323 : decode cX11_clause 323 = .ok (.aload_n 0, 1) := by decide +kernel
theorem dX11_clause_324 : decode cX11_clause 324 = .ok (.iconst 1, 1) := by decide +kernel
theorem dX11_clause_325 : decode cX11_clause 325 = .ok (.bipush 9, 2) := by decide +kernel
theorem dX11_clause_327 : decode cX11_clause 327 = .ok (.invokevirtual 150, 3) := by decide +kernel
theorem dX11_clause_330 : decode cX11_clause 330 = .ok (.iastore, 1) := by decide +kernel
theorem dX11_clause_331 : decode cX11_clause 331 = .ok (.goto 71, 3) := by decide +kernel
theorem dX11_clause_334 : decode cX11_clause 334 = .ok (.aload_n 0, 1) := by decide +kernel
theorem dX11_clause_335 : decode cX11_clause 335 = .ok (.iconst 1, 1) := by decide +kernel
theorem dX11_clause_336 : decode cX11_clause 336 = .ok (.bipush 9, 2) := by decide +kernel
theorem dX11_clause_338 : decode cX11_clause 338 = .ok (.invokevirtual 150, 3) := by decide +kernel
theorem dX11_clause_341 : decode cX11_clause 341 = .ok (.istore_n 2, 1) := by decide +kernel
theorem dX11_clause_342 : decode cX11_clause 342 = .ok (.aload_n 0, 1) := by decide +kernel
theorem dX11_clause_343 : decode cX11_clause 343 = .ok (.iconst 1, 1) := by decide +kernel
theorem dX11_clause_344 : decode cX11_clause 344 = .ok (.bipush 9, 2) := by decide +kernel
theorem dX11_clause_346 : decode cX11_clause 346 = .ok (.invokevirtual 150, 3) := by decide +kernel
theorem dX11_clause_349 : decode cX11_clause 349 = .ok (.istore_n 3, 1) := by decide +kernel
theorem dX11_clause_350 : decode cX11_clause 350 = .ok (.aload_n 0, 1) := by decide +kernel
theorem dX11_clause_351 : decode cX11_clause 351 = .ok (.getfield 101, 3) := by decide +kernel
theorem dX11_clause_354 : decode cX11_clause 354 = .ok (.ifCond .eq 6, 3) := by decide +kernel
theorem dX11_clause_357 : decode cX11_clause 357 = .ok (.goto 45, 3) := by decide +kernel
theorem dX11_clause_360 : decode cX11_clause 360 = .ok (.aload_n 0, 1) := by decide +kernel
theorem dX11_clause_361 : decode cX11_clause 361 = .ok (.getfield 20, 3) := by decide +kernel
theorem dX11_clause_364 : decode cX11_clause 364 = .ok (.iconst 3, 1) := by decide +kernel
theorem dX11_clause_365 : decode cX11_clause 365 = .ok (.iload_n 2, 1) := by decide +kernel
theorem dX11_clause_366 : decode cX11_clause 366 = .ok (.iastore, 1) := by decide +kernel
theorem dX11_clause_367 : decode cX11_clause 367 = .ok (.aload_n 0, 1) := by decide +kernel
theorem dX11_clause_368 : decode cX11_clause 368 = .ok (.getfield 20, 3) := by decide +kernel
theorem dX11_clause_371 : decode cX11_clause 371 = .ok (.iconst 4, 1) := by decide +kernel
theorem dX11_clause_372 : decode cX11_clause 372 = .ok (.iload_n 3, 1) := by decide +kernel
theorem dX11_clause_373 : decode cX11_clause 373 = .ok (.iastore, 1) := by decide +kernel
theorem dX11_clause_374 : decode cX11_clause 374 = .ok (.goto 28, 3) := by decide +kernel
theorem dX11_clause_377 : decode cX11_clause 377 = .ok (.aload_n 0, 1) := by decide +kernel
theorem dX11_clause_378 : decode cX11_clause 378 = .ok (.iconst 1, 1) := by decide +kernel
theorem dX11_clause_379 : decode cX11_clause 379 = .ok (.bipush 30, 2) := by decide +kernel
theorem dX11_clause_381 : decode cX11_clause 381 = .ok (.invokevirtual 150, 3) := by decide +kernel
theorem dX11_clause_384 : decode cX11_clause 384 = .ok (.istore_n 2, 1) := by decide +kernel
theorem dX11_clause_385 : decode cX11_clause 385 = .ok (.aload_n 0, 1) := by decide +kernel
theorem dX11_clause_386 : decode cX11_clause 386 = .ok (.getfield 101, 3) := by decide +kernel
theorem dX11_clause_389 : decode cX11_clause 389 = .ok (.ifCond .ne 13, 3) := by decide +kernel
theorem dX11_clause_392 : decode cX11_clause 392 = .ok (.aload_n 0, 1) := by decide +kernel
theorem dX11_clause_393 : decode cX11_clause 393 = .ok (.getfield 20, 3) := by decide +kernel
theorem dX11_clause_396 : decode cX11_clause 396 = .ok (.iconst 5, 1) := by decide +kernel
theorem dX11_clause_397 : decode cX11_clause 397 = .ok (.iload_n 2, 1) := by decide +kernel
theorem dX11_clause_398 : decode cX11_clause 398 = .ok (.iastore, 1) := by decide +kernel
theorem dX11_clause_399 : decode cX11_clause 399 = .ok (.goto 3, 3) := by decide +kernel
theorem dX11_clause_402 : decode cX11_clause 402 = .ok (.iload_n 1, 1) := by decide +kernel
theorem dX11_clause_403 : decode cX11_clause 403 = .ok (.iconst 3, 1) := by decide +kernel
theorem dX11_clause_404 : decode cX11_clause 404 = .ok (.if_icmp .ge 24, 3) := by decide +kernel
theorem dX11_clause_407 : decode cX11_clause 407 = .ok (.aload_n 0, 1) := by decide +kernel
theorem dX11_clause_408 : decode cX11_clause 408 = .ok (.getfield 20, 3) := by decide +kernel
theorem dX11_clause_411 : decode cX11_clause 411 = .ok (.iload_n 1, 1) := by decide +kernel
theorem dX11_clause_412 : decode cX11_clause 412 = .ok (.dup2, 1) := by decide +kernel
theorem dX11_clause_413 : decode cX11_clause 413 = .ok (.iaload, 1) := by decide +kernel
theorem dX11_clause_414 : decode cX11_clause 414 = .ok (.aload_n 0, 1) := by decide +kernel
theorem dX11_clause_415 : decode cX11_clause 415 = .ok (.getfield 101, 3) := by decide +kernel
theorem dX11_clause_418 : decode cX11_clause 418 = .ok (.ifCond .ne 7, 3) := by decide +kernel
theorem dX11_clause_421 : decode cX11_clause 421 = .ok (.iconst 1, 1) := by decide +kernel
theorem dX11_clause_422 : decode cX11_clause 422 = .ok (.goto 4, 3) := by decide +kernel
theorem dX11_clause_425 : decode cX11_clause 425 = .ok (.iconst 0, 1) := by decide +kernel
theorem dX11_clause_426 : decode cX11_clause 426 = .ok (.iadd, 1) := by decide +kernel
theorem dX11_clause_427 : decode cX11_clause 427 = .ok (.iastore, 1) := by decide +kernel
theorem dX11_clause_428 : decode cX11_clause 428 = .ok (.aload_n 0, 1) := by decide +kernel
theorem dX11_clause_429 : decode cX11_clause 429 = .ok (.bipush 59, 2) := by decide +kernel
theorem dX11_clause_431 : decode cX11_clause 431 = .ok (.invokevirtual 154, 3) := by decide +kernel
theorem dX11_clause_434 : decode cX11_clause 434 = .ok (.return_, 1) := by decide +kernel
theorem dX11_street_0 : decode cX11_street 0 = .ok (.aload_n 0, 1) := by decide +kernel
theorem dX11_street_1 : decode cX11_street 1 = .ok (.iconst 0, 1) := by decide +kernel
theorem dX11_street_2 : decode cX11_street 2 = .ok (.putfield 85, 3) := by decide +kernel
theorem dX11_street_5 : decode cX11_street 5 = .ok (.aload_n 0, 1) := by decide +kernel
theorem dX11_street_6 : decode cX11_street 6 = .ok (.iload_n 1, 1) := by decide +kernel
theorem dX11_street_7 : decode cX11_street 7 = .ok (.iconst 0, 1) := by decide +kernel
theorem dX11_street_8 : decode cX11_street 8 = .ok (.aload_n 0, 1) := by decide +kernel
theorem dX11_street_9 : decode cX11_street 9 = .ok (.getfield 88, 3) := by decide +kernel
theorem dX11_street_12 : decode cX11_street 12 = .ok (.invokestatic 119, 3) := by decide +kernel
theorem dX11_street_15 : decode cX11_street 15 = .ok (.ifCond .ne 7, 3) := by decide +kernel
theorem dX11_street_18 : decode cX11_street 18 = .ok (.iconst 1, 1) := by decide +kernel
theorem dX11_street_19 : decode cX11_street 19 = .ok (.goto 4, 3) := by decide +kernel
theorem dX11_street_22 : decode cX11_street 22 = .ok (.iconst 0, 1) := by decide +kernel
theorem dX11_street_23 : decode cX11_street 23 = .ok (.iconst 1, 1) := by decide +kernel
theorem dX11_street_24 : decode cX11_street 24 = .ok (.iconst 2, 1) := by decide +kernel
theorem dX11_street_25 : decode cX11_street 25 = .ok (.invokevirtual 158, 3) := by decide +kernel
theorem dX11_street_28 : decode cX11_street 28 = .ok (.ifCond .eq 5, 3) := by decide +kernel
theorem dX11_street_31 : decode cX11_street 31 = .ok (.iconst 0, 1) := by decide +kernel
theorem dX11_street_32 : decode cX11_street 32 = .ok (.ireturn, 1) := by decide +kernel
theorem dX11_street_33 : decode cX11_street 33 = .ok (.aload_n 0, 1) := by decide +kernel
theorem dX11_street_34 : decode cX11_street 34 = .ok (.iload_n 1, 1) := by decide +kernel
theorem dX11_street_35 : decode cX11_street 35 = .ok (.invokevirtual 162, 3) := by decide +kernel
theorem dX11_street_38 : decode cX11_street 38 = .ok (.aload_n 0, 1) := by decide +kernel
theorem dX11_street_39 : decode cX11_street 39 = .ok (.invokevirtual 79, 3) := by decide +kernel
theorem dX11_street_42 : decode cX11_street 42 = .ok (.aload_n 0, 1) := by decide +kernel
theorem dX11_street_43 : decode cX11_street 43 = .ok (.getfield 101, 3) := by decide +kernel
theorem dX11_street_46 : decode cX11_street 46 = .ok (.ifCond .ne 25, 3) := by decide +kernel
theorem dX11_street_49 : decode cX11_street 49 = .ok (.aload_n 0, 1) := by decide +kernel
theorem dX11_street_50 : decode cX11_street 50 = .ok (.getfield 94, 3) := by decide +kernel
theorem dX11_street_53 : decode cX11_street 53 = .ok (.aload_n 0, 1) := by decide +kernel
theorem dX11_street_54 : decode cX11_street 54 = .ok (.getfield 91, 3) := by decide +kernel
theorem dX11_street_57 : decode cX11_street 57 = .ok (.if_icmp .ge 14, 3) := by decide +kernel
theorem dX11_street_60 : decode cX11_street 60 = .ok (.aload_n 0, 1) := by decide +kernel
theorem dX11_street_61 : decode cX11_street 61 = .ok (.invokevirtual 165, 3) := by decide +kernel
theorem dX11_street_64 : decode cX11_street 64 = .ok (.aload_n 0, 1) := by decide +kernel
theorem dX11_street_65 : decode cX11_street 65 = .ok (.invokevirtual 107, 3) := by decide +kernel
theorem dX11_street_68 : decode cX11_street 68 = .ok (.goto (-26), 3) := by decide +kernel
theorem dX11_street_71 : decode cX11_street 71 = .ok (.aload_n 0, 1) := by decide +kernel
theorem dX11_street_72 : decode cX11_street 72 = .ok (.getfield 101, 3) := by decide +kernel
theorem dX11_street_75 : decode cX11_street 75 = .ok (.ifCond .eq 8, 3) := by decide +kernel
theorem dX11_street_78 : decode cX11_street 78 = .ok (.aload_n 0, 1) := by decide +kernel
theorem dX11_street_79 : decode cX11_street 79 = .ok (.invokevirtual 168, 3) := by decide +kernel
theorem dX11_street_82 : decode cX11_street 82 = .ok (.ireturn, 1) := by decide +kernel
theorem dX11_street_83 : decode cX11_street 83 = .ok (.aload_n 0, 1) := by decide +kernel
theorem dX11_street_84 : decode cX11_street 84 = .ok (.iconst (-1), 1) := by decide +kernel
theorem dX11_street_85 : decode cX11_street 85 = .ok (.putfield 9, 3) := by decide +kernel
theorem dX11_street_88 : decode cX11_street 88 = .ok (.aload_n 0, 1) := by decide +kernel
theorem dX11_street_89 : decode cX11_street 89 = .ok (.invokevirtual 82, 3) := by decide +kernel
theorem dX11_street_92 : decode cX11_street 92 = .ok (.aload_n 0, 1) := by decide +kernel
theorem dX11_street_93 : decode cX11_street 93 = .ok (.getfield 23, 3) := by decide +kernel
theorem dX11_street_96 : decode cX11_street 96 = .ok (.iconst 0, 1) := by decide +kernel
theorem dX11_street_97 : decode cX11_street 97 = .ok (.iaload, 1) := by decide +kernel
theorem dX11_street_98 : decode cX11_street 98 = .ok (.ireturn, 1) := by decide +kernel
theorem dX11_lays_0 : decode cX11_lays 0 = .ok (.iconst 0, 1) := by decide +kernel
theorem dX11_lays_1 : decode cX11_lays 1 = .ok (.istore_n 3, 1) := by decide +kernel
theorem dX11_lays_2 : decode cX11_lays 2 = .ok (.iload_n 3, 1) := by decide +kernel
theorem dX11_lays_3 : decode cX11_lays 3 = .ok (.iload_n 2, 1) := by decide +kernel
theorem dX11_lays_4 : decode cX11_lays 4 = .ok (.if_icmp .ge 39, 3) := by decide +kernel
theorem dX11_lays_7 : decode cX11_lays 7 = .ok (.iconst 0, 1) := by decide +kernel
theorem dX11_lays_8 : decode cX11_lays 8 = .ok (.istore 4, 2) := by decide +kernel
theorem dX11_lays_10 : decode cX11_lays 10 = .ok (.iload 4, 2) := by decide +kernel
theorem dX11_lays_12 : decode cX11_lays 12 = .ok (.aload_n 1, 1) := by decide +kernel
theorem dX11_lays_13 : decode cX11_lays 13 = .ok (.iload_n 3, 1) := by decide +kernel
theorem dX11_lays_14 : decode cX11_lays 14 = .ok (.aaload, 1) := by decide +kernel
theorem dX11_lays_15 : decode cX11_lays 15 = .ok (.arraylength, 1) := by decide +kernel
theorem dX11_lays_16 : decode cX11_lays 16 = .ok (.if_icmp .ge 21, 3) := by decide +kernel
theorem dX11_lays_19 : decode cX11_lays 19 = .ok (.aload_n 1, 1) := by decide +kernel
theorem dX11_lays_20 : decode cX11_lays 20 = .ok (.iload_n 3, 1) := by decide +kernel
theorem dX11_lays_21 : decode cX11_lays 21 = .ok (.aaload, 1) := by decide +kernel
theorem dX11_lays_22 : decode cX11_lays 22 = .ok (.iload 4, 2) := by decide +kernel
theorem dX11_lays_24 : decode cX11_lays 24 = .ok (.aload_n 0, 1) := by decide +kernel
theorem dX11_lays_25 : decode cX11_lays 25 = .ok (.iload_n 3, 1) := by decide +kernel
theorem dX11_lays_26 : decode cX11_lays 26 = .ok (.aaload, 1) := by decide +kernel
theorem dX11_lays_27 : decode cX11_lays 27 = .ok (.iload 4, 2) := by decide +kernel
theorem dX11_lays_29 : decode cX11_lays 29 = .ok (.iaload, 1) := by decide +kernel
theorem dX11_lays_30 : decode cX11_lays 30 = .ok (.iastore, 1) := by decide +kernel
theorem dX11_lays_31 : decode cX11_lays 31 = .ok (.iinc 4 1, 3) := by decide +kernel
theorem dX11_lays_34 : decode cX11_lays 34 = .ok (.goto (-24), 3) := by decide +kernel
theorem dX11_lays_37 : decode cX11_lays 37 = .ok (.iinc 3 1, 3) := by decide +kernel
theorem dX11_lays_40 : decode cX11_lays 40 = .ok (.goto (-38), 3) := by decide +kernel
theorem dX11_lays_43 : decode cX11_lays 43 = .ok (.return_, 1) := by decide +kernel
theorem dX11_stands_0 : decode cX11_stands 0 = .ok (.iconst 0, 1) := by decide +kernel
theorem dX11_stands_1 : decode cX11_stands 1 = .ok (.istore_n 1, 1) := by decide +kernel
theorem dX11_stands_2 : decode cX11_stands 2 = .ok (.iload_n 1, 1) := by decide +kernel
theorem dX11_stands_3 : decode cX11_stands 3 = .ok (.bipush 6, 2) := by decide +kernel
theorem dX11_stands_5 : decode cX11_stands 5 = .ok (.if_icmp .ge 21, 3) := by decide +kernel
theorem dX11_stands_8 : decode cX11_stands 8 = .ok (.aload_n 0, 1) := by decide +kernel
theorem dX11_stands_9 : decode cX11_stands 9 = .ok (.getfield 23, 3) := by decide +kernel
theorem dX11_stands_12 : decode cX11_stands 12 = .ok (.iload_n 1, 1) := by decide +kernel
theorem dX11_stands_13 : decode cX11_stands 13 = .ok (.aload_n 0, 1) := by decide +kernel
theorem dX11_stands_14 : decode cX11_stands 14 = .ok (.getfield 20, 3) := by decide +kernel
theorem dX11_stands_17 : decode cX11_stands 17 = .ok (.iload_n 1, 1) := by decide +kernel
theorem dX11_stands_18 : decode cX11_stands 18 = .ok (.iaload, 1) := by decide +kernel
theorem dX11_stands_19 : decode cX11_stands 19 = .ok (.iastore, 1) := by decide +kernel
theorem dX11_stands_20 : decode cX11_stands 20 = .ok (.iinc 1 1, 3) := by decide +kernel
theorem dX11_stands_23 : decode cX11_stands 23 = .ok (.goto (-21), 3) := by decide +kernel
theorem dX11_stands_26 : decode cX11_stands 26 = .ok (.aload_n 0, 1) := by decide +kernel
theorem dX11_stands_27 : decode cX11_stands 27 = .ok (.getfield 28, 3) := by decide +kernel
theorem dX11_stands_30 : decode cX11_stands 30 = .ok (.aload_n 0, 1) := by decide +kernel
theorem dX11_stands_31 : decode cX11_stands 31 = .ok (.getfield 31, 3) := by decide +kernel
theorem dX11_stands_34 : decode cX11_stands 34 = .ok (.aload_n 0, 1) := by decide +kernel
theorem dX11_stands_35 : decode cX11_stands 35 = .ok (.getfield 23, 3) := by decide +kernel
theorem dX11_stands_38 : decode cX11_stands 38 = .ok (.iconst 0, 1) := by decide +kernel
theorem dX11_stands_39 : decode cX11_stands 39 = .ok (.iaload, 1) := by decide +kernel
theorem dX11_stands_40 : decode cX11_stands 40 = .ok (.invokestatic 171, 3) := by decide +kernel
theorem dX11_stands_43 : decode cX11_stands 43 = .ok (.aload_n 0, 1) := by decide +kernel
theorem dX11_stands_44 : decode cX11_stands 44 = .ok (.getfield 40, 3) := by decide +kernel
theorem dX11_stands_47 : decode cX11_stands 47 = .ok (.aload_n 0, 1) := by decide +kernel
theorem dX11_stands_48 : decode cX11_stands 48 = .ok (.getfield 43, 3) := by decide +kernel
theorem dX11_stands_51 : decode cX11_stands 51 = .ok (.aload_n 0, 1) := by decide +kernel
theorem dX11_stands_52 : decode cX11_stands 52 = .ok (.getfield 23, 3) := by decide +kernel
theorem dX11_stands_55 : decode cX11_stands 55 = .ok (.iconst 1, 1) := by decide +kernel
theorem dX11_stands_56 : decode cX11_stands 56 = .ok (.iaload, 1) := by decide +kernel
theorem dX11_stands_57 : decode cX11_stands 57 = .ok (.invokestatic 171, 3) := by decide +kernel
theorem dX11_stands_60 : decode cX11_stands 60 = .ok (.aload_n 0, 1) := by decide +kernel
theorem dX11_stands_61 : decode cX11_stands 61 = .ok (.getfield 34, 3) := by decide +kernel
theorem dX11_stands_64 : decode cX11_stands 64 = .ok (.aload_n 0, 1) := by decide +kernel
theorem dX11_stands_65 : decode cX11_stands 65 = .ok (.getfield 37, 3) := by decide +kernel
theorem dX11_stands_68 : decode cX11_stands 68 = .ok (.aload_n 0, 1) := by decide +kernel
theorem dX11_stands_69 : decode cX11_stands 69 = .ok (.getfield 23, 3) := by decide +kernel
theorem dX11_stands_72 : decode cX11_stands 72 = .ok (.iconst 2, 1) := by decide +kernel
theorem dX11_stands_73 : decode cX11_stands 73 = .ok (.iaload, 1) := by decide +kernel
theorem dX11_stands_74 : decode cX11_stands 74 = .ok (.invokestatic 171, 3) := by decide +kernel
theorem dX11_stands_77 : decode cX11_stands 77 = .ok (.iconst 0, 1) := by decide +kernel
theorem dX11_stands_78 : decode cX11_stands 78 = .ok (.istore_n 1, 1) := by decide +kernel
theorem dX11_stands_79 : decode cX11_stands 79 = .ok (.iload_n 1, 1) := by decide +kernel
theorem dX11_stands_80 : decode cX11_stands 80 = .ok (.sipush 2685, 3) := by decide +kernel
theorem dX11_stands_83 : decode cX11_stands 83 = .ok (.if_icmp .ge 16, 3) := by decide +kernel
theorem dX11_stands_86 : decode cX11_stands 86 = .ok (.aload_n 0, 1) := by decide +kernel
theorem dX11_stands_87 : decode cX11_stands 87 = .ok (.getfield 67, 3) := by decide +kernel
theorem dX11_stands_90 : decode cX11_stands 90 = .ok (.iload_n 1, 1) := by decide +kernel
theorem dX11_stands_91 : decode cX11_stands 91 = .ok (.iconst 0, 1) := by decide +kernel
theorem dX11_stands_92 : decode cX11_stands 92 = .ok (.iastore, 1) := by decide +kernel
theorem dX11_stands_93 : decode cX11_stands 93 = .ok (.iinc 1 1, 3) := by decide +kernel
theorem dX11_stands_96 : decode cX11_stands 96 = .ok (.goto (-17), 3) := by decide +kernel
theorem dX11_stands_99 : decode cX11_stands 99 = .ok (.aload_n 0, 1) := by decide +kernel
theorem dX11_stands_100 : decode cX11_stands 100 = .ok (.iconst 0, 1) := by decide +kernel
theorem dX11_stands_101 : decode cX11_stands 101 = .ok (.putfield 175, 3) := by decide +kernel
theorem dX11_stands_104 : decode cX11_stands 104 = .ok (.aload_n 0, 1) := by decide +kernel
theorem dX11_stands_105 : decode cX11_stands 105 = .ok (.iconst 0, 1) := by decide +kernel
theorem dX11_stands_106 : decode cX11_stands 106 = .ok (.putfield 178, 3) := by decide +kernel
theorem dX11_stands_109 : decode cX11_stands 109 = .ok (.aload_n 0, 1) := by decide +kernel
theorem dX11_stands_110 : decode cX11_stands 110 = .ok (.iconst 0, 1) := by decide +kernel
theorem dX11_stands_111 : decode cX11_stands 111 = .ok (.putfield 181, 3) := by decide +kernel
theorem dX11_stands_114 : decode cX11_stands 114 = .ok (.aload_n 0, 1) := by decide +kernel
theorem dX11_stands_115 : decode cX11_stands 115 = .ok (.iconst 0, 1) := by decide +kernel
theorem dX11_stands_116 : decode cX11_stands 116 = .ok (.putfield 184, 3) := by decide +kernel
theorem dX11_stands_119 : decode cX11_stands 119 = .ok (.aload_n 0, 1) := by decide +kernel
theorem dX11_stands_120 : decode cX11_stands 120 = .ok (.iconst 0, 1) := by decide +kernel
theorem dX11_stands_121 : decode cX11_stands 121 = .ok (.putfield 187, 3) := by decide +kernel
theorem dX11_stands_124 : decode cX11_stands 124 = .ok (.return_, 1) := by decide +kernel
theorem dX11_notes_0 : decode cX11_notes 0 = .ok (.aload_n 0, 1) := by decide +kernel
theorem dX11_notes_1 : decode cX11_notes 1 = .ok (.getfield 101, 3) := by decide +kernel
theorem dX11_notes_4 : decode cX11_notes 4 = .ok (.ifCond .eq 4, 3) := by decide +kernel
theorem dX11_notes_7 : decode cX11_notes 7 = .ok (.return_, 1) := by decide +kernel
theorem dX11_notes_8 : decode cX11_notes 8 = .ok (.aload_n 0, 1) := by decide +kernel
theorem dX11_notes_9 : decode cX11_notes 9 = .ok (.getfield 49, 3) := by decide +kernel
theorem dX11_notes_12 : decode cX11_notes 12 = .ok (.aload_n 0, 1) := by decide +kernel
theorem dX11_notes_13 : decode cX11_notes 13 = .ok (.getfield 190, 3) := by decide +kernel
theorem dX11_notes_16 : decode cX11_notes 16 = .ok (.aaload, 1) := by decide +kernel
theorem dX11_notes_17 : decode cX11_notes 17 = .ok (.iconst 0, 1) := by decide +kernel
theorem dX11_notes_18 : decode cX11_notes 18 = .ok (.iload_n 1, 1) := by decide +kernel
theorem dX11_notes_19 : decode cX11_notes 19 = .ok (.iastore, 1) := by decide +kernel
theorem dX11_notes_20 : decode cX11_notes 20 = .ok (.aload_n 0, 1) := by decide +kernel
theorem dX11_notes_21 : decode cX11_notes 21 = .ok (.getfield 49, 3) := by decide +kernel
theorem dX11_notes_24 : decode cX11_notes 24 = .ok (.aload_n 0, 1) := by decide +kernel
theorem dX11_notes_25 : decode cX11_notes 25 = .ok (.getfield 190, 3) := by decide +kernel
theorem dX11_notes_28 : decode cX11_notes 28 = .ok (.aaload, 1) := by decide +kernel
theorem dX11_notes_29 : decode cX11_notes 29 = .ok (.iconst 1, 1) := by decide +kernel
theorem dX11_notes_30 : decode cX11_notes 30 = .ok (.iload_n 2, 1) := by decide +kernel
theorem dX11_notes_31 : decode cX11_notes 31 = .ok (.iastore, 1) := by decide +kernel
theorem dX11_notes_32 : decode cX11_notes 32 = .ok (.aload_n 0, 1) := by decide +kernel
theorem dX11_notes_33 : decode cX11_notes 33 = .ok (.dup, 1) := by decide +kernel
theorem dX11_notes_34 : decode cX11_notes 34 = .ok (.getfield 190, 3) := by decide +kernel
theorem dX11_notes_37 : decode cX11_notes 37 = .ok (.iconst 1, 1) := by decide +kernel
theorem dX11_notes_38 : decode cX11_notes 38 = .ok (.iadd, 1) := by decide +kernel
theorem dX11_notes_39 : decode cX11_notes 39 = .ok (.putfield 190, 3) := by decide +kernel
theorem dX11_notes_42 : decode cX11_notes 42 = .ok (.return_, 1) := by decide +kernel
theorem dX11_opens_0 : decode cX11_opens 0 = .ok (.aload_n 0, 1) := by decide +kernel
theorem dX11_opens_1 : decode cX11_opens 1 = .ok (.getfield 101, 3) := by decide +kernel
theorem dX11_opens_4 : decode cX11_opens 4 = .ok (.ifCond .ne 24, 3) := by decide +kernel
theorem dX11_opens_7 : decode cX11_opens 7 = .ok (.aload_n 0, 1) := by decide +kernel
theorem dX11_opens_8 : decode cX11_opens 8 = .ok (.getfield 144, 3) := by decide +kernel
theorem dX11_opens_11 : decode cX11_opens 11 = .ok (.bipush 6, 2) := by decide +kernel
theorem dX11_opens_13 : decode cX11_opens 13 = .ok (.if_icmp .ne 15, 3) := by decide +kernel
theorem dX11_opens_16 : decode cX11_opens 16 = .ok (.aload_n 0, 1) := by decide +kernel
theorem dX11_opens_17 : decode cX11_opens 17 = .ok (.iconst 3, 1) := by decide +kernel
theorem dX11_opens_18 : decode cX11_opens 18 = .ok (.aload_n 0, 1) := by decide +kernel
theorem dX11_opens_19 : decode cX11_opens 19 = .ok (.getfield 94, 3) := by decide +kernel
theorem dX11_opens_22 : decode cX11_opens 22 = .ok (.invokevirtual 114, 3) := by decide +kernel
theorem dX11_opens_25 : decode cX11_opens 25 = .ok (.goto 20, 3) := by decide +kernel
theorem dX11_opens_28 : decode cX11_opens 28 = .ok (.aload_n 0, 1) := by decide +kernel
theorem dX11_opens_29 : decode cX11_opens 29 = .ok (.getfield 101, 3) := by decide +kernel
theorem dX11_opens_32 : decode cX11_opens 32 = .ok (.ifCond .ne 13, 3) := by decide +kernel
theorem dX11_opens_35 : decode cX11_opens 35 = .ok (.aload_n 0, 1) := by decide +kernel
theorem dX11_opens_36 : decode cX11_opens 36 = .ok (.dup, 1) := by decide +kernel
theorem dX11_opens_37 : decode cX11_opens 37 = .ok (.getfield 144, 3) := by decide +kernel
theorem dX11_opens_40 : decode cX11_opens 40 = .ok (.iconst 1, 1) := by decide +kernel
theorem dX11_opens_41 : decode cX11_opens 41 = .ok (.iadd, 1) := by decide +kernel
theorem dX11_opens_42 : decode cX11_opens 42 = .ok (.putfield 144, 3) := by decide +kernel
theorem dX11_opens_45 : decode cX11_opens 45 = .ok (.aload_n 0, 1) := by decide +kernel
theorem dX11_opens_46 : decode cX11_opens 46 = .ok (.getfield 101, 3) := by decide +kernel
theorem dX11_opens_49 : decode cX11_opens 49 = .ok (.ifCond .ne 7, 3) := by decide +kernel
theorem dX11_opens_52 : decode cX11_opens 52 = .ok (.iconst 1, 1) := by decide +kernel
theorem dX11_opens_53 : decode cX11_opens 53 = .ok (.goto 4, 3) := by decide +kernel
theorem dX11_opens_56 : decode cX11_opens 56 = .ok (.iconst 0, 1) := by decide +kernel
theorem dX11_opens_57 : decode cX11_opens 57 = .ok (.ireturn, 1) := by decide +kernel
theorem dX11_sum_0 : decode cX11_sum 0 = .ok (.aload_n 0, 1) := by decide +kernel
theorem dX11_sum_1 : decode cX11_sum 1 = .ok (.invokevirtual 193, 3) := by decide +kernel
theorem dX11_sum_4 : decode cX11_sum 4 = .ok (.aload_n 0, 1) := by decide +kernel
theorem dX11_sum_5 : decode cX11_sum 5 = .ok (.getfield 101, 3) := by decide +kernel
theorem dX11_sum_8 : decode cX11_sum 8 = .ok (.ifCond .ne 50, 3) := by decide +kernel
theorem dX11_sum_11 : decode cX11_sum 11 = .ok (.aload_n 0, 1) := by decide +kernel
theorem dX11_sum_12 : decode cX11_sum 12 = .ok (.bipush 43, 2) := by decide +kernel
theorem dX11_sum_14 : decode cX11_sum 14 = .ok (.invokevirtual 196, 3) := by decide +kernel
theorem dX11_sum_17 : decode cX11_sum 17 = .ok (.ifCond .eq 7, 3) := by decide +kernel
theorem dX11_sum_20 : decode cX11_sum 20 = .ok (.iconst 2, 1) := by decide +kernel
theorem dX11_sum_21 : decode cX11_sum 21 = .ok (.goto 17, 3) := by decide +kernel
theorem dX11_sum_24 : decode cX11_sum 24 = .ok (.aload_n 0, 1) := by decide +kernel
theorem dX11_sum_25 : decode cX11_sum 25 = .ok (.bipush 45, 2) := by decide +kernel
theorem dX11_sum_27 : decode cX11_sum 27 = .ok (.invokevirtual 196, 3) := by decide +kernel
theorem dX11_sum_30 : decode cX11_sum 30 = .ok (.ifCond .eq 7, 3) := by decide +kernel
theorem dX11_sum_33 : decode cX11_sum 33 = .ok (.iconst 3, 1) := by decide +kernel
theorem dX11_sum_34 : decode cX11_sum 34 = .ok (.goto 4, 3) := by decide +kernel
theorem dX11_sum_37 : decode cX11_sum 37 = .ok (.iconst (-1), 1) := by decide +kernel
theorem dX11_sum_38 : decode cX11_sum 38 = .ok (.istore_n 1, 1) := by decide +kernel
theorem dX11_sum_39 : decode cX11_sum 39 = .ok (.iload_n 1, 1) := by decide +kernel
theorem dX11_sum_40 : decode cX11_sum 40 = .ok (.iconst (-1), 1) := by decide +kernel
theorem dX11_sum_41 : decode cX11_sum 41 = .ok (.if_icmp .ne 4, 3) := by decide +kernel
theorem dX11_sum_44 : decode cX11_sum 44 = .ok (.return_, 1) := by decide +kernel
theorem dX11_sum_45 : decode cX11_sum 45 = .ok (.aload_n 0, 1) := by decide +kernel
theorem dX11_sum_46 : decode cX11_sum 46 = .ok (.invokevirtual 193, 3) := by decide +kernel
theorem dX11_sum_49 : decode cX11_sum 49 = .ok (.aload_n 0, 1) := by decide +kernel
theorem dX11_sum_50 : decode cX11_sum 50 = .ok (.iload_n 1, 1) := by decide +kernel
theorem dX11_sum_51 : decode cX11_sum 51 = .ok (.iconst 0, 1) := by decide +kernel
theorem dX11_sum_52 : decode cX11_sum 52 = .ok (.invokevirtual 199, 3) := by decide +kernel
theorem dX11_sum_55 : decode cX11_sum 55 = .ok (.goto (-51), 3) := by decide +kernel
theorem dX11_sum_58 : decode cX11_sum 58 = .ok (.return_, 1) := by decide +kernel
theorem dX11_product_0 : decode cX11_product 0 = .ok (.aload_n 0, 1) := by decide +kernel
theorem dX11_product_1 : decode cX11_product 1 = .ok (.invokevirtual 202, 3) := by decide +kernel
theorem dX11_product_4 : decode cX11_product 4 = .ok (.aload_n 0, 1) := by decide +kernel
theorem dX11_product_5 : decode cX11_product 5 = .ok (.getfield 101, 3) := by decide +kernel
theorem dX11_product_8 : decode cX11_product 8 = .ok (.ifCond .ne 64, 3) := by decide +kernel
theorem dX11_product_11 : decode cX11_product 11 = .ok (.aload_n 0, 1) := by decide +kernel
theorem dX11_product_12 : decode cX11_product 12 = .ok (.bipush 42, 2) := by decide +kernel
theorem dX11_product_14 : decode cX11_product 14 = .ok (.invokevirtual 196, 3) := by decide +kernel
theorem dX11_product_17 : decode cX11_product 17 = .ok (.ifCond .eq 7, 3) := by decide +kernel
theorem dX11_product_20 : decode cX11_product 20 = .ok (.iconst 4, 1) := by decide +kernel
theorem dX11_product_21 : decode cX11_product 21 = .ok (.goto 31, 3) := by decide +kernel
theorem dX11_product_24 : decode cX11_product 24 = .ok (.aload_n 0, 1) := by decide +kernel
theorem dX11_product_25 : decode cX11_product 25 = .ok (.bipush 47, 2) := by decide +kernel
theorem dX11_product_27 : decode cX11_product 27 = .ok (.invokevirtual 196, 3) := by decide +kernel
theorem dX11_product_30 : decode cX11_product 30 = .ok (.ifCond .eq 7, 3) := by decide +kernel
theorem dX11_product_33 : decode cX11_product 33 = .ok (.iconst 5, 1) := by decide +kernel
theorem dX11_product_34 : decode cX11_product 34 = .ok (.goto 18, 3) := by decide +kernel
theorem dX11_product_37 : decode cX11_product 37 = .ok (.aload_n 0, 1) := by decide +kernel
theorem dX11_product_38 : decode cX11_product 38 = .ok (.bipush 37, 2) := by decide +kernel
theorem dX11_product_40 : decode cX11_product 40 = .ok (.invokevirtual 196, 3) := by decide +kernel
theorem dX11_product_43 : decode cX11_product 43 = .ok (.ifCond .eq 8, 3) := by decide +kernel
theorem dX11_product_46 : decode cX11_product 46 = .ok (.bipush 6, 2) := by decide +kernel
theorem dX11_product_48 : decode cX11_product 48 = .ok (.goto 4, 3) := by decide +kernel
theorem dX11_product_51 : decode cX11_product 51 = .ok (.iconst (-1), 1) := by decide +kernel
theorem dX11_product_52 : decode cX11_product 52 = .ok (.istore_n 1, 1) := by decide +kernel
theorem dX11_product_53 : decode cX11_product 53 = .ok (.iload_n 1, 1) := by decide +kernel
theorem dX11_product_54 : decode cX11_product 54 = .ok (.iconst (-1), 1) := by decide +kernel
theorem dX11_product_55 : decode cX11_product 55 = .ok (.if_icmp .ne 4, 3) := by decide +kernel
theorem dX11_product_58 : decode cX11_product 58 = .ok (.return_, 1) := by decide +kernel
theorem dX11_product_59 : decode cX11_product 59 = .ok (.aload_n 0, 1) := by decide +kernel
theorem dX11_product_60 : decode cX11_product 60 = .ok (.invokevirtual 202, 3) := by decide +kernel
theorem dX11_product_63 : decode cX11_product 63 = .ok (.aload_n 0, 1) := by decide +kernel
theorem dX11_product_64 : decode cX11_product 64 = .ok (.iload_n 1, 1) := by decide +kernel
theorem dX11_product_65 : decode cX11_product 65 = .ok (.iconst 0, 1) := by decide +kernel
theorem dX11_product_66 : decode cX11_product 66 = .ok (.invokevirtual 199, 3) := by decide +kernel
theorem dX11_product_69 : decode cX11_product 69 = .ok (.goto (-65), 3) := by decide +kernel
theorem dX11_product_72 : decode cX11_product 72 = .ok (.return_, 1) := by decide +kernel
theorem dX11_knownHere_0 : decode cX11_knownHere 0 = .ok (.aload_n 0, 1) := by decide +kernel
theorem dX11_knownHere_1 : decode cX11_knownHere 1 = .ok (.iconst 4, 1) := by decide +kernel
theorem dX11_knownHere_2 : decode cX11_knownHere 2 = .ok (.iconst 1, 1) := by decide +kernel
theorem dX11_knownHere_3 : decode cX11_knownHere 3 = .ok (.bipush 25, 2) := by decide +kernel
theorem dX11_knownHere_5 : decode cX11_knownHere 5 = .ok (.iconst 0, 1) := by decide +kernel
theorem dX11_knownHere_6 : decode cX11_knownHere 6 = .ok (.iconst 0, 1) := by decide +kernel
theorem dX11_knownHere_7 : decode cX11_knownHere 7 = .ok (.iconst 0, 1) := by decide +kernel
theorem dX11_knownHere_8 : decode cX11_knownHere 8 = .ok (.invokevirtual 205, 3) := by decide +kernel
theorem dX11_knownHere_11 : decode cX11_knownHere 11 = .ok (.ifCond .eq 5, 3) := by decide +kernel
theorem dX11_knownHere_14 : decode cX11_knownHere 14 = .ok (.iconst 0, 1) := by decide +kernel
theorem dX11_knownHere_15 : decode cX11_knownHere 15 = .ok (.ireturn, 1) := by decide +kernel
theorem dX11_knownHere_16 : decode cX11_knownHere 16 = .ok (.aload_n 0, 1) := by decide +kernel
theorem dX11_knownHere_17 : decode cX11_knownHere 17 = .ok (.bipush 24, 2) := by decide +kernel
theorem dX11_knownHere_19 : decode cX11_knownHere 19 = .ok (.iconst 0, 1) := by decide +kernel
theorem dX11_knownHere_20 : decode cX11_knownHere 20 = .ok (.iconst 0, 1) := by decide +kernel
theorem dX11_knownHere_21 : decode cX11_knownHere 21 = .ok (.iconst 0, 1) := by decide +kernel
theorem dX11_knownHere_22 : decode cX11_knownHere 22 = .ok (.iconst 0, 1) := by decide +kernel
theorem dX11_knownHere_23 : decode cX11_knownHere 23 = .ok (.iconst 0, 1) := by decide +kernel
theorem dX11_knownHere_24 : decode cX11_knownHere 24 = .ok (.invokevirtual 205, 3) := by decide +kernel
theorem dX11_knownHere_27 : decode cX11_knownHere 27 = .ok (.ifCond .eq 5, 3) := by decide +kernel
theorem dX11_knownHere_30 : decode cX11_knownHere 30 = .ok (.iconst 1, 1) := by decide +kernel
theorem dX11_knownHere_31 : decode cX11_knownHere 31 = .ok (.ireturn, 1) := by decide +kernel
theorem dX11_knownHere_32 : decode cX11_knownHere 32 = .ok (.aload_n 0, 1) := by decide +kernel
theorem dX11_knownHere_33 : decode cX11_knownHere 33 = .ok (.bipush 25, 2) := by decide +kernel
theorem dX11_knownHere_35 : decode cX11_knownHere 35 = .ok (.iconst 0, 1) := by decide +kernel
theorem dX11_knownHere_36 : decode cX11_knownHere 36 = .ok (.iconst 0, 1) := by decide +kernel
theorem dX11_knownHere_37 : decode cX11_knownHere 37 = .ok (.iconst 0, 1) := by decide +kernel
theorem dX11_knownHere_38 : decode cX11_knownHere 38 = .ok (.iconst 0, 1) := by decide +kernel
theorem dX11_knownHere_39 : decode cX11_knownHere 39 = .ok (.iconst 0, 1) := by decide +kernel
theorem dX11_knownHere_40 : decode cX11_knownHere 40 = .ok (.invokevirtual 205, 3) := by decide +kernel
theorem dX11_knownHere_43 : decode cX11_knownHere 43 = .ok (.ifCond .eq 5, 3) := by decide +kernel
theorem dX11_knownHere_46 : decode cX11_knownHere 46 = .ok (.iconst 2, 1) := by decide +kernel
theorem dX11_knownHere_47 : decode cX11_knownHere 47 = .ok (.ireturn, 1) := by decide +kernel
theorem dX11_knownHere_48 : decode cX11_knownHere 48 = .ok (.aload_n 0, 1) := by decide +kernel
theorem dX11_knownHere_49 : decode cX11_knownHere 49 = .ok (.bipush 6, 2) := by decide +kernel
theorem dX11_knownHere_51 : decode cX11_knownHere 51 = .ok (.bipush 12, 2) := by decide +kernel
theorem dX11_knownHere_53 : decode cX11_knownHere 53 = .ok (.bipush 15, 2) := by decide +kernel
theorem dX11_knownHere_55 : decode cX11_knownHere 55 = .ok (.bipush 15, 2) := by decide +kernel
theorem dX11_knownHere_57 : decode cX11_knownHere 57 = .ok (.bipush 18, 2) := by decide +kernel
theorem dX11_knownHere_59 : decode cX11_knownHere 59 = .ok (.iconst 0, 1) := by decide +kernel
theorem dX11_knownHere_60 : decode cX11_knownHere 60 = .ok (.invokevirtual 205, 3) := by decide +kernel
theorem dX11_knownHere_63 : decode cX11_knownHere 63 = .ok (.ifCond .eq 5, 3) := by decide +kernel
theorem dX11_knownHere_66 : decode cX11_knownHere 66 = .ok (.iconst 3, 1) := by decide +kernel
theorem dX11_knownHere_67 : decode cX11_knownHere 67 = .ok (.ireturn, 1) := by decide +kernel
theorem dX11_knownHere_68 : decode cX11_knownHere 68 = .ok (.aload_n 0, 1) := by decide +kernel
theorem dX11_knownHere_69 : decode cX11_knownHere 69 = .ok (.bipush 16, 2) := by decide +kernel
theorem dX11_knownHere_71 : decode cX11_knownHere 71 = .ok (.iconst 1, 1) := by decide +kernel
theorem dX11_knownHere_72 : decode cX11_knownHere 72 = .ok (.bipush 14, 2) := by decide +kernel
theorem dX11_knownHere_74 : decode cX11_knownHere 74 = .ok (.iconst 5, 1) := by decide +kernel
theorem dX11_knownHere_75 : decode cX11_knownHere 75 = .ok (.iconst 0, 1) := by decide +kernel
theorem dX11_knownHere_76 : decode cX11_knownHere 76 = .ok (.iconst 0, 1) := by decide +kernel
theorem dX11_knownHere_77 : decode cX11_knownHere 77 = .ok (.invokevirtual 205, 3) := by decide +kernel
theorem dX11_knownHere_80 : decode cX11_knownHere 80 = .ok (.ifCond .eq 5, 3) := by decide +kernel
theorem dX11_knownHere_83 : decode cX11_knownHere 83 = .ok (.iconst 4, 1) := by decide +kernel
theorem dX11_knownHere_84 : decode cX11_knownHere 84 = .ok (.ireturn, 1) := by decide +kernel
theorem dX11_knownHere_85 : decode cX11_knownHere 85 = .ok (.aload_n 0, 1) := by decide +kernel
theorem dX11_knownHere_86 : decode cX11_knownHere 86 = .ok (.iconst 4, 1) := by decide +kernel
theorem dX11_knownHere_87 : decode cX11_knownHere 87 = .ok (.iconst 5, 1) := by decide +kernel
theorem dX11_knownHere_88 : decode cX11_knownHere 88 = .ok (.iconst 5, 1) := by decide +kernel
theorem dX11_knownHere_89 : decode cX11_knownHere 89 = .ok (.bipush 16, 2) := by decide +kernel
theorem dX11_knownHere_91 : decode cX11_knownHere 91 = .ok (.iconst 0, 1) := by decide +kernel
theorem dX11_knownHere_92 : decode cX11_knownHere 92 = .ok (.iconst 0, 1) := by decide +kernel
theorem dX11_knownHere_93 : decode cX11_knownHere 93 = .ok (.invokevirtual 205, 3) := by decide +kernel
theorem dX11_knownHere_96 : decode cX11_knownHere 96 = .ok (.ifCond .eq 5, 3) := by decide +kernel
theorem dX11_knownHere_99 : decode cX11_knownHere 99 = .ok (.iconst 5, 1) := by decide +kernel
theorem dX11_knownHere_100 : decode cX11_knownHere 100 = .ok (.ireturn, 1) := by decide +kernel
theorem dX11_knownHere_101 : decode cX11_knownHere 101 = .ok (.aload_n 0, 1) := by decide +kernel
theorem dX11_knownHere_102 : decode cX11_knownHere 102 = .ok (.bipush 19, 2) := by decide +kernel
theorem dX11_knownHere_104 : decode cX11_knownHere 104 = .ok (.iconst 5, 1) := by decide +kernel
theorem dX11_knownHere_105 : decode cX11_knownHere 105 = .ok (.iconst 5, 1) := by decide +kernel
theorem dX11_knownHere_106 : decode cX11_knownHere 106 = .ok (.bipush 14, 2) := by decide +kernel
theorem dX11_knownHere_108 : decode cX11_knownHere 108 = .ok (.iconst 0, 1) := by decide +kernel
theorem dX11_knownHere_109 : decode cX11_knownHere 109 = .ok (.iconst 0, 1) := by decide +kernel
theorem dX11_knownHere_110 : decode cX11_knownHere 110 = .ok (.invokevirtual 205, 3) := by decide +kernel
theorem dX11_knownHere_113 : decode cX11_knownHere 113 = .ok (.ifCond .eq 6, 3) := by decide +kernel
theorem dX11_knownHere_116 : decode cX11_knownHere 116 = .ok (.bipush 6, 2) := by decide +kernel
theorem dX11_knownHere_118 : decode cX11_knownHere 118 = .ok (.ireturn, 1) := by decide +kernel
theorem dX11_knownHere_119 : decode cX11_knownHere 119 = .ok (.aload_n 0, 1) := by decide +kernel
theorem dX11_knownHere_120 : decode cX11_knownHere 120 = .ok (.bipush 18, 2) := by decide +kernel
theorem dX11_knownHere_122 : decode cX11_knownHere 122 = .ok (.iconst 1, 1) := by decide +kernel
theorem dX11_knownHere_123 : decode cX11_knownHere 123 = .ok (.bipush 9, 2) := by decide +kernel
theorem dX11_knownHere_125 : decode cX11_knownHere 125 = .ok (.bipush 14, 2) := by decide +kernel
theorem dX11_knownHere_127 : decode cX11_knownHere 127 = .ok (.iconst 0, 1) := by decide +kernel
theorem dX11_knownHere_128 : decode cX11_knownHere 128 = .ok (.iconst 0, 1) := by decide +kernel
theorem dX11_knownHere_129 : decode cX11_knownHere 129 = .ok (.invokevirtual 205, 3) := by decide +kernel
theorem dX11_knownHere_132 : decode cX11_knownHere 132 = .ok (.ifCond .eq 8, 3) := by decide +kernel
theorem dX11_knownHere_135 : decode cX11_knownHere 135 = .ok (.bipush 7, 2) := by decide +kernel
theorem dX11_knownHere_137 : decode cX11_knownHere 137 = .ok (.goto 4, 3) := by decide +kernel
theorem dX11_knownHere_140 : decode cX11_knownHere 140 = .ok (.iconst (-1), 1) := by decide +kernel
theorem dX11_knownHere_141 : decode cX11_knownHere 141 = .ok (.ireturn, 1) := by decide +kernel
theorem dX11_one_0 : decode cX11_one 0 = .ok (.aload_n 0, 1) := by decide +kernel
theorem dX11_one_1 : decode cX11_one 1 = .ok (.getfield 101, 3) := by decide +kernel
theorem dX11_one_4 : decode cX11_one 4 = .ok (.ifCond .eq 4, 3) := by decide +kernel
theorem dX11_one_7 : decode cX11_one 7 = .ok (.return_, 1) := by decide +kernel
theorem dX11_one_8 : decode cX11_one 8 = .ok (.aload_n 0, 1) := by decide +kernel
theorem dX11_one_9 : decode cX11_one 9 = .ok (.invokevirtual 107, 3) := by decide +kernel
theorem dX11_one_12 : decode cX11_one 12 = .ok (.aload_n 0, 1) := by decide +kernel
theorem dX11_one_13 : decode cX11_one 13 = .ok (.bipush 12, 2) := by decide +kernel
theorem dX11_one_15 : decode cX11_one 15 = .ok (.iconst 5, 1) := by decide +kernel
theorem dX11_one_16 : decode cX11_one 16 = .ok (.iconst 1, 1) := by decide +kernel
theorem dX11_one_17 : decode cX11_one 17 = .ok (.bipush 19, 2) := by decide +kernel
theorem dX11_one_19 : decode cX11_one 19 = .ok (.bipush 20, 2) := by decide +kernel
theorem dX11_one_21 : decode cX11_one 21 = .ok (.iconst 0, 1) := by decide +kernel
theorem dX11_one_22 : decode cX11_one 22 = .ok (.invokevirtual 134, 3) := by decide +kernel
theorem dX11_one_25 : decode cX11_one 25 = .ok (.ifCond .eq 8, 3) := by decide +kernel
theorem dX11_one_28 : decode cX11_one 28 = .ok (.bipush 7, 2) := by decide +kernel
theorem dX11_one_30 : decode cX11_one 30 = .ok (.goto 26, 3) := by decide +kernel
theorem dX11_one_33 : decode cX11_one 33 = .ok (.aload_n 0, 1) := by decide +kernel
theorem dX11_one_34 : decode cX11_one 34 = .ok (.bipush 13, 2) := by decide +kernel
theorem dX11_one_36 : decode cX11_one 36 = .ok (.bipush 15, 2) := by decide +kernel
theorem dX11_one_38 : decode cX11_one 38 = .ok (.bipush 19, 2) := by decide +kernel
theorem dX11_one_40 : decode cX11_one 40 = .ok (.bipush 20, 2) := by decide +kernel
theorem dX11_one_42 : decode cX11_one 42 = .ok (.iconst 0, 1) := by decide +kernel
theorem dX11_one_43 : decode cX11_one 43 = .ok (.iconst 0, 1) := by decide +kernel
theorem dX11_one_44 : decode cX11_one 44 = .ok (.invokevirtual 134, 3) := by decide +kernel
theorem dX11_one_47 : decode cX11_one 47 = .ok (.ifCond .eq 8, 3) := by decide +kernel
theorem dX11_one_50 : decode cX11_one 50 = .ok (.bipush 8, 2) := by decide +kernel
theorem dX11_one_52 : decode cX11_one 52 = .ok (.goto 4, 3) := by decide +kernel
theorem dX11_one_55 : decode cX11_one 55 = .ok (.iconst (-1), 1) := by decide +kernel
theorem dX11_one_56 : decode cX11_one 56 = .ok (.istore_n 1, 1) := by decide +kernel
theorem dX11_one_57 : decode cX11_one 57 = .ok (.iload_n 1, 1) := by decide +kernel
theorem dX11_one_58 : decode cX11_one 58 = .ok (.iconst (-1), 1) := by decide +kernel
theorem dX11_one_59 : decode cX11_one 59 = .ok (.if_icmp .eq 58, 3) := by decide +kernel
theorem dX11_one_62 : decode cX11_one 62 = .ok (.aload_n 0, 1) := by decide +kernel
theorem dX11_one_63 : decode cX11_one 63 = .ok (.invokevirtual 208, 3) := by decide +kernel
theorem dX11_one_66 : decode cX11_one 66 = .ok (.ifCond .ne 4, 3) := by decide +kernel
theorem dX11_one_69 : decode cX11_one 69 = .ok (.return_, 1) := by decide +kernel
theorem dX11_one_70 : decode cX11_one 70 = .ok (.aload_n 0, 1) := by decide +kernel
theorem dX11_one_71 : decode cX11_one 71 = .ok (.invokevirtual 138, 3) := by decide +kernel
theorem dX11_one_74 : decode cX11_one 74 = .ok (.aload_n 0, 1) := by decide +kernel
theorem dX11_one_75 : decode cX11_one 75 = .ok (.bipush 91, 2) := by decide +kernel
theorem dX11_one_77 : decode cX11_one 77 = .ok (.invokevirtual 154, 3) := by decide +kernel
theorem dX11_one_80 : decode cX11_one 80 = .ok (.aload_n 0, 1) := by decide +kernel
theorem dX11_one_81 : decode cX11_one 81 = .ok (.invokevirtual 212, 3) := by decide +kernel
theorem dX11_one_84 : decode cX11_one 84 = .ok (.aload_n 0, 1) := by decide +kernel
theorem dX11_one_85 : decode cX11_one 85 = .ok (.bipush 44, 2) := by decide +kernel
theorem dX11_one_87 : decode cX11_one 87 = .ok (.invokevirtual 154, 3) := by decide +kernel
theorem dX11_one_90 : decode cX11_one 90 = .ok (.aload_n 0, 1) := by decide +kernel
theorem dX11_one_91 : decode cX11_one 91 = .ok (.invokevirtual 212, 3) := by decide +kernel
theorem dX11_one_94 : decode cX11_one 94 = .ok (.aload_n 0, 1) := by decide +kernel
theorem dX11_one_95 : decode cX11_one 95 = .ok (.bipush 93, 2) := by decide +kernel
theorem dX11_one_97 : decode cX11_one 97 = .ok (.invokevirtual 154, 3) := by decide +kernel
theorem dX11_one_100 : decode cX11_one 100 = .ok (.aload_n 0, 1) := by decide +kernel
theorem dX11_one_101 : decode cX11_one 101 = .ok (.iload_n 1, 1) := by decide +kernel
theorem dX11_one_102 : decode cX11_one 102 = .ok (.iconst 0, 1) := by decide +kernel
theorem dX11_one_103 : decode cX11_one 103 = .ok (.invokevirtual 199, 3) := by decide +kernel
theorem dX11_one_106 : decode cX11_one 106 = .ok (.aload_n 0, 1) := by decide +kernel
theorem dX11_one_107 : decode cX11_one 107 = .ok (.dup, 1) := by decide +kernel
theorem dX11_one_108 : decode cX11_one 108 = .ok (.getfield 144, 3) := by decide +kernel
theorem dX11_one_111 : decode cX11_one 111 = .ok (.iconst 1, 1) := by decide +kernel
theorem dX11_one_112 : decode cX11_one 112 = .ok (.isub, 1) := by decide +kernel
theorem dX11_one_113 : decode cX11_one 113 = .ok (.putfield 144, 3) := by decide +kernel
theorem dX11_one_116 : decode cX11_one 116 = .ok (.return_, 1) := by decide +kernel
theorem dX11_one_117 : decode cX11_one 117 = .ok (.aload_n 0, 1) := by decide +kernel
theorem dX11_one_118 : decode cX11_one 118 = .ok (.aload_n 0, 1) := by decide +kernel
theorem dX11_one_119 : decode cX11_one 119 = .ok (.getfield 94, 3) := by decide +kernel
theorem dX11_one_122 : decode cX11_one 122 = .ok (.invokevirtual 97, 3) := by decide +kernel
theorem dX11_one_125 : decode cX11_one 125 = .ok (.bipush 40, 2) := by decide +kernel
theorem dX11_one_127 : decode cX11_one 127 = .ok (.if_icmp .ne 42, 3) := by decide +kernel
theorem dX11_one_130 : decode cX11_one 130 = .ok (.aload_n 0, 1) := by decide +kernel
theorem dX11_one_131 : decode cX11_one 131 = .ok (.invokevirtual 208, 3) := by decide +kernel
theorem dX11_one_134 : decode cX11_one 134 = .ok (.ifCond .ne 4, 3) := by decide +kernel
theorem dX11_one_137 : decode cX11_one 137 = .ok (.return_, 1) := by decide +kernel
theorem dX11_one_138 : decode cX11_one 138 = .ok (.aload_n 0, 1) := by decide +kernel
theorem dX11_one_139 : decode cX11_one 139 = .ok (.dup, 1) := by decide +kernel
theorem dX11_one_140 : decode cX11_one 140 = .ok (.getfield 94, 3) := by decide +kernel
theorem dX11_one_143 : decode cX11_one 143 = .ok (.iconst 1, 1) := by decide +kernel
theorem dX11_one_144 : decode cX11_one 144 = .ok (.iadd, 1) := by decide +kernel
theorem dX11_one_145 : decode cX11_one 145 = .ok (.putfield 94, 3) := by decide +kernel
theorem dX11_one_148 : decode cX11_one 148 = .ok (.aload_n 0, 1) := by decide +kernel
theorem dX11_one_149 : decode cX11_one 149 = .ok (.invokevirtual 212, 3) := by decide +kernel
theorem dX11_one_152 : decode cX11_one 152 = .ok (.aload_n 0, 1) := by decide +kernel
theorem dX11_one_153 : decode cX11_one 153 = .ok (.bipush 41, 2) := by decide +kernel
theorem dX11_one_155 : decode cX11_one 155 = .ok (.invokevirtual 154, 3) := by decide +kernel
theorem dX11_one_158 : decode cX11_one 158 = .ok (.aload_n 0, 1) := by decide +kernel
theorem dX11_one_159 : decode cX11_one 159 = .ok (.dup, 1) := by decide +kernel
theorem dX11_one_160 : decode cX11_one 160 = .ok (.getfield 144, 3) := by decide +kernel
theorem dX11_one_163 : decode cX11_one 163 = .ok (.iconst 1, 1) := by decide +kernel
theorem dX11_one_164 : decode cX11_one 164 = .ok (.isub, 1) := by decide +kernel
theorem dX11_one_165 : decode cX11_one 165 = .ok (.putfield 144, 3) := by decide +kernel
theorem dX11_one_168 : decode cX11_one 168 = .ok (.return_, 1) := by decide +kernel
theorem dX11_one_169 : decode cX11_one 169 = .ok (.aload_n 0, 1) := by decide +kernel
theorem dX11_one_170 : decode cX11_one 170 = .ok (.invokevirtual 215, 3) := by decide +kernel
theorem dX11_one_173 : decode cX11_one 173 = .ok (.istore_n 2, 1) := by decide +kernel
theorem dX11_one_174 : decode cX11_one 174 = .ok (.iload_n 2, 1) := by decide +kernel
theorem dX11_one_175 : decode cX11_one 175 = .ok (.iconst (-1), 1) := by decide +kernel
theorem dX11_one_176 : decode cX11_one 176 = .ok (.if_icmp .eq 12, 3) := by decide +kernel
theorem dX11_one_179 : decode cX11_one 179 = .ok (.aload_n 0, 1) := by decide +kernel
theorem dX11_one_180 : decode cX11_one 180 = .ok (.iconst 1, 1) := by decide +kernel
theorem dX11_one_181 : decode cX11_one 181 = .ok (.iload_n 2, 1) := by decide +kernel
theorem dX11_one_182 : decode cX11_one 182 = .ok (.invokevirtual 199, 3) := by decide +kernel
theorem dX11_one_185 : decode cX11_one 185 = .ok (.goto 16, 3) := by decide +kernel
theorem dX11_one_188 : decode cX11_one 188 = .ok (.aload_n 0, 1) := by decide +kernel
theorem dX11_one_189 : decode cX11_one 189 = .ok (.iconst 0, 1) := by decide +kernel
theorem dX11_one_190 : decode cX11_one 190 = .ok (.aload_n 0, 1) := by decide +kernel
theorem dX11_one_191 : decode cX11_one 191 = .ok (.iconst 0, 1) := by decide +kernel
theorem dX11_one_192 : decode cX11_one 192 = .ok (.sipush 999, 3) := by decide +kernel
theorem dX11_one_195 : decode cX11_one 195 = .ok (.invokevirtual 150, 3) := by decide +kernel
theorem dX11_one_198 : decode cX11_one 198 = .ok (.invokevirtual 199, 3) := by decide +kernel
theorem dX11_one_201 : decode cX11_one 201 = .ok (.return_, 1) := by decide +kernel
theorem dX11_law_0 : decode cX11_law 0 = .ok (.aload_n 0, 1) := by decide +kernel
theorem dX11_law_1 : decode cX11_law 1 = .ok (.iconst 0, 1) := by decide +kernel
theorem dX11_law_2 : decode cX11_law 2 = .ok (.putfield 85, 3) := by decide +kernel
theorem dX11_law_5 : decode cX11_law 5 = .ok (.aload_n 0, 1) := by decide +kernel
theorem dX11_law_6 : decode cX11_law 6 = .ok (.iload_n 1, 1) := by decide +kernel
theorem dX11_law_7 : decode cX11_law 7 = .ok (.iconst 0, 1) := by decide +kernel
theorem dX11_law_8 : decode cX11_law 8 = .ok (.aload_n 0, 1) := by decide +kernel
theorem dX11_law_9 : decode cX11_law 9 = .ok (.getfield 88, 3) := by decide +kernel
theorem dX11_law_12 : decode cX11_law 12 = .ok (.invokestatic 119, 3) := by decide +kernel
theorem dX11_law_15 : decode cX11_law 15 = .ok (.ifCond .eq 10, 3) := by decide +kernel
theorem dX11_law_18 : decode cX11_law 18 = .ok (.iload_n 1, 1) := by decide +kernel
theorem dX11_law_19 : decode cX11_law 19 = .ok (.sipush 150, 3) := by decide +kernel
theorem dX11_law_22 : decode cX11_law 22 = .ok (.if_icmp .le 7, 3) := by decide +kernel
theorem dX11_law_25 : decode cX11_law 25 = .ok (.iconst 1, 1) := by decide +kernel
theorem dX11_law_26 : decode cX11_law 26 = .ok (.goto 4, 3) := by decide +kernel
theorem dX11_law_29 : decode cX11_law 29 = .ok (.iconst 0, 1) := by decide +kernel
theorem dX11_law_30 : decode cX11_law 30 = .ok (.iconst 1, 1) := by decide +kernel
theorem dX11_law_31 : decode cX11_law 31 = .ok (.iconst 2, 1) := by decide +kernel
theorem dX11_law_32 : decode cX11_law 32 = .ok (.invokevirtual 158, 3) := by decide +kernel
theorem dX11_law_35 : decode cX11_law 35 = .ok (.ifCond .eq 5, 3) := by decide +kernel
theorem dX11_law_38 : decode cX11_law 38 = .ok (.iconst 0, 1) := by decide +kernel
theorem dX11_law_39 : decode cX11_law 39 = .ok (.ireturn, 1) := by decide +kernel
theorem dX11_law_40 : decode cX11_law 40 = .ok (.aload_n 0, 1) := by decide +kernel
theorem dX11_law_41 : decode cX11_law 41 = .ok (.iload_n 1, 1) := by decide +kernel
theorem dX11_law_42 : decode cX11_law 42 = .ok (.invokevirtual 162, 3) := by decide +kernel
theorem dX11_law_45 : decode cX11_law 45 = .ok (.aload_n 0, 1) := by decide +kernel
theorem dX11_law_46 : decode cX11_law 46 = .ok (.iconst 0, 1) := by decide +kernel
theorem dX11_law_47 : decode cX11_law 47 = .ok (.putfield 190, 3) := by decide +kernel
theorem dX11_law_50 : decode cX11_law 50 = .ok (.aload_n 0, 1) := by decide +kernel
theorem dX11_law_51 : decode cX11_law 51 = .ok (.invokevirtual 212, 3) := by decide +kernel
theorem dX11_law_54 : decode cX11_law 54 = .ok (.aload_n 0, 1) := by decide +kernel
theorem dX11_law_55 : decode cX11_law 55 = .ok (.invokevirtual 107, 3) := by decide +kernel
theorem dX11_law_58 : decode cX11_law 58 = .ok (.aload_n 0, 1) := by decide +kernel
theorem dX11_law_59 : decode cX11_law 59 = .ok (.getfield 101, 3) := by decide +kernel
theorem dX11_law_62 : decode cX11_law 62 = .ok (.ifCond .ne 23, 3) := by decide +kernel
theorem dX11_law_65 : decode cX11_law 65 = .ok (.aload_n 0, 1) := by decide +kernel
theorem dX11_law_66 : decode cX11_law 66 = .ok (.getfield 94, 3) := by decide +kernel
theorem dX11_law_69 : decode cX11_law 69 = .ok (.aload_n 0, 1) := by decide +kernel
theorem dX11_law_70 : decode cX11_law 70 = .ok (.getfield 91, 3) := by decide +kernel
theorem dX11_law_73 : decode cX11_law 73 = .ok (.if_icmp .ge 12, 3) := by decide +kernel
theorem dX11_law_76 : decode cX11_law 76 = .ok (.aload_n 0, 1) := by decide +kernel
theorem dX11_law_77 : decode cX11_law 77 = .ok (.iconst 1, 1) := by decide +kernel
theorem dX11_law_78 : decode cX11_law 78 = .ok (.aload_n 0, 1) := by decide +kernel
theorem dX11_law_79 : decode cX11_law 79 = .ok (.getfield 94, 3) := by decide +kernel
theorem dX11_law_82 : decode cX11_law 82 = .ok (.invokevirtual 114, 3) := by decide +kernel
theorem dX11_law_85 : decode cX11_law 85 = .ok (.aload_n 0, 1) := by decide +kernel
theorem dX11_law_86 : decode cX11_law 86 = .ok (.getfield 101, 3) := by decide +kernel
theorem dX11_law_89 : decode cX11_law 89 = .ok (.ifCond .eq 8, 3) := by decide +kernel
theorem dX11_law_92 : decode cX11_law 92 = .ok (.aload_n 0, 1) := by decide +kernel
theorem dX11_law_93 : decode cX11_law 93 = .ok (.invokevirtual 168, 3) := by decide +kernel
theorem dX11_law_96 : decode cX11_law 96 = .ok (.ireturn, 1) := by decide +kernel
theorem dX11_law_97 : decode cX11_law 97 = .ok (.aload_n 0, 1) := by decide +kernel
theorem dX11_law_98 : decode cX11_law 98 = .ok (.iconst (-1), 1) := by decide +kernel
theorem dX11_law_99 : decode cX11_law 99 = .ok (.putfield 9, 3) := by decide +kernel
theorem dX11_law_102 : decode cX11_law 102 = .ok (.aload_n 0, 1) := by decide +kernel
theorem dX11_law_103 : decode cX11_law 103 = .ok (.aload_n 0, 1) := by decide +kernel
theorem dX11_law_104 : decode cX11_law 104 = .ok (.getfield 190, 3) := by decide +kernel
theorem dX11_law_107 : decode cX11_law 107 = .ok (.putfield 175, 3) := by decide +kernel
theorem dX11_law_110 : decode cX11_law 110 = .ok (.aload_n 0, 1) := by decide +kernel
theorem dX11_law_111 : decode cX11_law 111 = .ok (.getfield 49, 3) := by decide +kernel
theorem dX11_law_114 : decode cX11_law 114 = .ok (.aload_n 0, 1) := by decide +kernel
theorem dX11_law_115 : decode cX11_law 115 = .ok (.getfield 46, 3) := by decide +kernel
theorem dX11_law_118 : decode cX11_law 118 = .ok (.aload_n 0, 1) := by decide +kernel
theorem dX11_law_119 : decode cX11_law 119 = .ok (.getfield 175, 3) := by decide +kernel
theorem dX11_law_122 : decode cX11_law 122 = .ok (.invokestatic 171, 3) := by decide +kernel
theorem dX11_law_125 : decode cX11_law 125 = .ok (.iconst 1, 1) := by decide +kernel
theorem dX11_law_126 : decode cX11_law 126 = .ok (.ireturn, 1) := by decide +kernel
theorem dX11_worked_0 : decode cX11_worked 0 = .ok (.iload_n 0, 1) := by decide +kernel
theorem dX11_worked_1 : decode cX11_worked 1 = .ok (.tableswitch 96 2 7 #[39, 43, 47, 51, 73, 90], 39) := by decide +kernel
theorem dX11_worked_40 : decode cX11_worked 40 = .ok (.iload_n 1, 1) := by decide +kernel
theorem dX11_worked_41 : decode cX11_worked 41 = .ok (.iload_n 2, 1) := by decide +kernel
theorem dX11_worked_42 : decode cX11_worked 42 = .ok (.iadd, 1) := by decide +kernel
theorem dX11_worked_43 : decode cX11_worked 43 = .ok (.ireturn, 1) := by decide +kernel
theorem dX11_worked_44 : decode cX11_worked 44 = .ok (.iload_n 1, 1) := by decide +kernel
theorem dX11_worked_45 : decode cX11_worked 45 = .ok (.iload_n 2, 1) := by decide +kernel
theorem dX11_worked_46 : decode cX11_worked 46 = .ok (.isub, 1) := by decide +kernel
theorem dX11_worked_47 : decode cX11_worked 47 = .ok (.ireturn, 1) := by decide +kernel
theorem dX11_worked_48 : decode cX11_worked 48 = .ok (.iload_n 1, 1) := by decide +kernel
theorem dX11_worked_49 : decode cX11_worked 49 = .ok (.iload_n 2, 1) := by decide +kernel
theorem dX11_worked_50 : decode cX11_worked 50 = .ok (.imul, 1) := by decide +kernel
theorem dX11_worked_51 : decode cX11_worked 51 = .ok (.ireturn, 1) := by decide +kernel
theorem dX11_worked_52 : decode cX11_worked 52 = .ok (.iload_n 2, 1) := by decide +kernel
theorem dX11_worked_53 : decode cX11_worked 53 = .ok (.ifCond .ne 7, 3) := by decide +kernel
theorem dX11_worked_56 : decode cX11_worked 56 = .ok (.iconst 0, 1) := by decide +kernel
theorem dX11_worked_57 : decode cX11_worked 57 = .ok (.goto 16, 3) := by decide +kernel
theorem dX11_worked_60 : decode cX11_worked 60 = .ok (.iload_n 2, 1) := by decide +kernel
theorem dX11_worked_61 : decode cX11_worked 61 = .ok (.iconst (-1), 1) := by decide +kernel
theorem dX11_worked_62 : decode cX11_worked 62 = .ok (.if_icmp .ne 8, 3) := by decide +kernel
theorem dX11_worked_65 : decode cX11_worked 65 = .ok (.iload_n 1, 1) := by decide +kernel
theorem dX11_worked_66 : decode cX11_worked 66 = .ok (.ineg, 1) := by decide +kernel
theorem dX11_worked_67 : decode cX11_worked 67 = .ok (.goto 6, 3) := by decide +kernel
theorem dX11_worked_70 : decode cX11_worked 70 = .ok (.iload_n 1, 1) := by decide +kernel
theorem dX11_worked_71 : decode cX11_worked 71 = .ok (.iload_n 2, 1) := by decide +kernel
theorem dX11_worked_72 : decode cX11_worked 72 = .ok (.idiv, 1) := by decide +kernel
theorem dX11_worked_73 : decode cX11_worked 73 = .ok (.ireturn, 1) := by decide +kernel
theorem dX11_worked_74 : decode cX11_worked 74 = .ok (.iload_n 2, 1) := by decide +kernel
theorem dX11_worked_75 : decode cX11_worked 75 = .ok (.ifCond .eq 8, 3) := by decide +kernel
theorem dX11_worked_78 : decode cX11_worked 78 = .ok (.iload_n 2, 1) := by decide +kernel
theorem dX11_worked_79 : decode cX11_worked 79 = .ok (.iconst (-1), 1) := by decide +kernel
theorem dX11_worked_80 : decode cX11_worked 80 = .ok (.if_icmp .ne 7, 3) := by decide +kernel
theorem dX11_worked_83 : decode cX11_worked 83 = .ok (.iconst 0, 1) := by decide +kernel
theorem dX11_worked_84 : decode cX11_worked 84 = .ok (.goto 6, 3) := by decide +kernel
theorem dX11_worked_87 : decode cX11_worked 87 = .ok (.iload_n 1, 1) := by decide +kernel
theorem dX11_worked_88 : decode cX11_worked 88 = .ok (.iload_n 2, 1) := by decide +kernel
theorem dX11_worked_89 : decode cX11_worked 89 = .ok (.irem, 1) := by decide +kernel
theorem dX11_worked_90 : decode cX11_worked 90 = .ok (.ireturn, 1) := by decide +kernel
theorem dX11_worked_91 : decode cX11_worked 91 = .ok (.iload_n 1, 1) := by decide +kernel
theorem dX11_worked_92 : decode cX11_worked 92 = .ok (.iload_n 2, 1) := by decide +kernel
theorem dX11_worked_93 : decode cX11_worked 93 = .ok (.invokestatic 218, 3) := by decide +kernel
theorem dX11_worked_96 : decode cX11_worked 96 = .ok (.ireturn, 1) := by decide +kernel
theorem dX11_worked_97 : decode cX11_worked 97 = .ok (.iload_n 1, 1) := by decide +kernel
theorem dX11_worked_98 : decode cX11_worked 98 = .ok (.iload_n 2, 1) := by decide +kernel
theorem dX11_worked_99 : decode cX11_worked 99 = .ok (.invokestatic 221, 3) := by decide +kernel
theorem dX11_worked_102 : decode cX11_worked 102 = .ok (.ireturn, 1) := by decide +kernel
theorem dX11_byLaw_0 : decode cX11_byLaw 0 = .ok (.aload_n 0, 1) := by decide +kernel
theorem dX11_byLaw_1 : decode cX11_byLaw 1 = .ok (.getfield 175, 3) := by decide +kernel
theorem dX11_byLaw_4 : decode cX11_byLaw 4 = .ok (.ifCond .ne 5, 3) := by decide +kernel
theorem dX11_byLaw_7 : decode cX11_byLaw 7 = .ok (.iconst 1, 1) := by decide +kernel
theorem dX11_byLaw_8 : decode cX11_byLaw 8 = .ok (.ireturn, 1) := by decide +kernel
theorem dX11_byLaw_9 : decode cX11_byLaw 9 = .ok (.iconst 0, 1) := by decide +kernel
theorem dX11_byLaw_10 : decode cX11_byLaw 10 = .ok (.istore_n 1, 1) := by decide +kernel
theorem dX11_byLaw_11 : decode cX11_byLaw 11 = .ok (.iconst 0, 1) := by decide +kernel
theorem dX11_byLaw_12 : decode cX11_byLaw 12 = .ok (.istore_n 2, 1) := by decide +kernel
theorem dX11_byLaw_13 : decode cX11_byLaw 13 = .ok (.iload_n 2, 1) := by decide +kernel
theorem dX11_byLaw_14 : decode cX11_byLaw 14 = .ok (.aload_n 0, 1) := by decide +kernel
theorem dX11_byLaw_15 : decode cX11_byLaw 15 = .ok (.getfield 175, 3) := by decide +kernel
theorem dX11_byLaw_18 : decode cX11_byLaw 18 = .ok (.if_icmp .ge 104, 3) := by decide +kernel
theorem dX11_byLaw_21 : decode cX11_byLaw 21 = .ok (.aload_n 0, 1) := by decide +kernel
theorem dX11_byLaw_22 : decode cX11_byLaw 22 = .ok (.getfield 46, 3) := by decide +kernel
theorem dX11_byLaw_25 : decode cX11_byLaw 25 = .ok (.iload_n 2, 1) := by decide +kernel
theorem dX11_byLaw_26 : decode cX11_byLaw 26 = .ok (.aaload, 1) := by decide +kernel
theorem dX11_byLaw_27 : decode cX11_byLaw 27 = .ok (.iconst 0, 1) := by decide +kernel
theorem dX11_byLaw_28 : decode cX11_byLaw 28 = .ok (.iaload, 1) := by decide +kernel
theorem dX11_byLaw_29 : decode cX11_byLaw 29 = .ok (.iconst 2, 1) := by decide +kernel
theorem dX11_byLaw_30 : decode cX11_byLaw 30 = .ok (.if_icmp .ge 50, 3) := by decide +kernel
theorem dX11_byLaw_33 : decode cX11_byLaw 33 = .ok (.aload_n 0, 1) := by decide +kernel
theorem dX11_byLaw_34 : decode cX11_byLaw 34 = .ok (.getfield 58, 3) := by decide +kernel
theorem dX11_byLaw_37 : decode cX11_byLaw 37 = .ok (.iload_n 1, 1) := by decide +kernel
theorem dX11_byLaw_38 : decode cX11_byLaw 38 = .ok (.aload_n 0, 1) := by decide +kernel
theorem dX11_byLaw_39 : decode cX11_byLaw 39 = .ok (.getfield 46, 3) := by decide +kernel
theorem dX11_byLaw_42 : decode cX11_byLaw 42 = .ok (.iload_n 2, 1) := by decide +kernel
theorem dX11_byLaw_43 : decode cX11_byLaw 43 = .ok (.aaload, 1) := by decide +kernel
theorem dX11_byLaw_44 : decode cX11_byLaw 44 = .ok (.iconst 0, 1) := by decide +kernel
theorem dX11_byLaw_45 : decode cX11_byLaw 45 = .ok (.iaload, 1) := by decide +kernel
theorem dX11_byLaw_46 : decode cX11_byLaw 46 = .ok (.ifCond .ne 14, 3) := by decide +kernel
theorem dX11_byLaw_49 : decode cX11_byLaw 49 = .ok (.aload_n 0, 1) := by decide +kernel
theorem dX11_byLaw_50 : decode cX11_byLaw 50 = .ok (.getfield 46, 3) := by decide +kernel
theorem dX11_byLaw_53 : decode cX11_byLaw 53 = .ok (.iload_n 2, 1) := by decide +kernel
theorem dX11_byLaw_54 : decode cX11_byLaw 54 = .ok (.aaload, 1) := by decide +kernel
theorem dX11_byLaw_55 : decode cX11_byLaw 55 = .ok (.iconst 1, 1) := by decide +kernel
theorem dX11_byLaw_56 : decode cX11_byLaw 56 = .ok (.iaload, 1) := by decide +kernel
theorem dX11_byLaw_57 : decode cX11_byLaw 57 = .ok (.goto 16, 3) := by decide +kernel
theorem dX11_byLaw_60 : decode cX11_byLaw 60 = .ok (.aload_n 0, 1) := by decide +kernel
theorem dX11_byLaw_61 : decode cX11_byLaw 61 = .ok (.getfield 61, 3) := by decide +kernel
theorem dX11_byLaw_64 : decode cX11_byLaw 64 = .ok (.aload_n 0, 1) := by decide +kernel
theorem dX11_byLaw_65 : decode cX11_byLaw 65 = .ok (.getfield 46, 3) := by decide +kernel
theorem dX11_byLaw_68 : decode cX11_byLaw 68 = .ok (.iload_n 2, 1) := by decide +kernel
theorem dX11_byLaw_69 : decode cX11_byLaw 69 = .ok (.aaload, 1) := by decide +kernel
theorem dX11_byLaw_70 : decode cX11_byLaw 70 = .ok (.iconst 1, 1) := by decide +kernel
theorem dX11_byLaw_71 : decode cX11_byLaw 71 = .ok (.iaload, 1) := by decide +kernel
theorem dX11_byLaw_72 : decode cX11_byLaw 72 = .ok (.iaload, 1) := by decide +kernel
theorem dX11_byLaw_73 : decode cX11_byLaw 73 = .ok (.iastore, 1) := by decide +kernel
theorem dX11_byLaw_74 : decode cX11_byLaw 74 = .ok (.iinc 1 1, 3) := by decide +kernel
theorem dX11_byLaw_77 : decode cX11_byLaw 77 = .ok (.goto 39, 3) := by decide +kernel
theorem dX11_byLaw_80 : decode cX11_byLaw 80 = .ok (.iinc 1 (-1), 3) := by decide +kernel
theorem dX11_byLaw_83 : decode cX11_byLaw 83 = .ok (.aload_n 0, 1) := by decide +kernel
theorem dX11_byLaw_84 : decode cX11_byLaw 84 = .ok (.getfield 58, 3) := by decide +kernel
theorem dX11_byLaw_87 : decode cX11_byLaw 87 = .ok (.iload_n 1, 1) := by decide +kernel
theorem dX11_byLaw_88 : decode cX11_byLaw 88 = .ok (.iconst 1, 1) := by decide +kernel
theorem dX11_byLaw_89 : decode cX11_byLaw 89 = .ok (.isub, 1) := by decide +kernel
theorem dX11_byLaw_90 : decode cX11_byLaw 90 = .ok (.aload_n 0, 1) := by decide +kernel
theorem dX11_byLaw_91 : decode cX11_byLaw 91 = .ok (.getfield 46, 3) := by decide +kernel
theorem dX11_byLaw_94 : decode cX11_byLaw 94 = .ok (.iload_n 2, 1) := by decide +kernel
theorem dX11_byLaw_95 : decode cX11_byLaw 95 = .ok (.aaload, 1) := by decide +kernel
theorem dX11_byLaw_96 : decode cX11_byLaw 96 = .ok (.iconst 0, 1) := by decide +kernel
theorem dX11_byLaw_97 : decode cX11_byLaw 97 = .ok (.iaload, 1) := by decide +kernel
theorem dX11_byLaw_98 : decode cX11_byLaw 98 = .ok (.aload_n 0, 1) := by decide +kernel
theorem dX11_byLaw_99 : decode cX11_byLaw 99 = .ok (.getfield 58, 3) := by decide +kernel
theorem dX11_byLaw_102 : decode cX11_byLaw 102 = .ok (.iload_n 1, 1) := by decide +kernel
theorem dX11_byLaw_103 : decode cX11_byLaw 103 = .ok (.iconst 1, 1) := by decide +kernel
theorem dX11_byLaw_104 : decode cX11_byLaw 104 = .ok (.isub, 1) := by decide +kernel
theorem dX11_byLaw_105 : decode cX11_byLaw 105 = .ok (.iaload, 1) := by decide +kernel
theorem dX11_byLaw_106 : decode cX11_byLaw 106 = .ok (.aload_n 0, 1) := by decide +kernel
theorem dX11_byLaw_107 : decode cX11_byLaw 107 = .ok (.getfield 58, 3) := by decide +kernel
theorem dX11_byLaw_110 : decode cX11_byLaw 110 = .ok (.iload_n 1, 1) := by decide +kernel
theorem dX11_byLaw_111 : decode cX11_byLaw 111 = .ok (.iaload, 1) := by decide +kernel
theorem dX11_byLaw_112 : decode cX11_byLaw 112 = .ok (.invokestatic 224, 3) := by decide +kernel
theorem dX11_byLaw_115 : decode cX11_byLaw 115 = .ok (.iastore, 1) := by decide +kernel
theorem dX11_byLaw_116 : decode cX11_byLaw 116 = .ok (.iinc 2 1, 3) := by decide +kernel
theorem dX11_byLaw_119 : decode cX11_byLaw 119 = .ok (.goto (-106), 3) := by decide +kernel
theorem dX11_byLaw_122 : decode cX11_byLaw 122 = .ok (.aload_n 0, 1) := by decide +kernel
theorem dX11_byLaw_123 : decode cX11_byLaw 123 = .ok (.getfield 58, 3) := by decide +kernel
theorem dX11_byLaw_126 : decode cX11_byLaw 126 = .ok (.iconst 0, 1) := by decide +kernel
theorem dX11_byLaw_127 : decode cX11_byLaw 127 = .ok (.iaload, 1) := by decide +kernel
theorem dX11_byLaw_128 : decode cX11_byLaw 128 = .ok (.ireturn, 1) := by decide +kernel
theorem dX11_stepHere_0 : decode cX11_stepHere 0 = .ok (.aload_n 0, 1) := by decide +kernel
theorem dX11_stepHere_1 : decode cX11_stepHere 1 = .ok (.bipush 23, 2) := by decide +kernel
theorem dX11_stepHere_3 : decode cX11_stepHere 3 = .ok (.bipush 9, 2) := by decide +kernel
theorem dX11_stepHere_5 : decode cX11_stepHere 5 = .ok (.bipush 16, 2) := by decide +kernel
theorem dX11_stepHere_7 : decode cX11_stepHere 7 = .ok (.iconst 5, 1) := by decide +kernel
theorem dX11_stepHere_8 : decode cX11_stepHere 8 = .ok (.iconst 0, 1) := by decide +kernel
theorem dX11_stepHere_9 : decode cX11_stepHere 9 = .ok (.iconst 0, 1) := by decide +kernel
theorem dX11_stepHere_10 : decode cX11_stepHere 10 = .ok (.invokevirtual 134, 3) := by decide +kernel
theorem dX11_stepHere_13 : decode cX11_stepHere 13 = .ok (.ifCond .eq 5, 3) := by decide +kernel
theorem dX11_stepHere_16 : decode cX11_stepHere 16 = .ok (.iconst 0, 1) := by decide +kernel
theorem dX11_stepHere_17 : decode cX11_stepHere 17 = .ok (.ireturn, 1) := by decide +kernel
theorem dX11_stepHere_18 : decode cX11_stepHere 18 = .ok (.aload_n 0, 1) := by decide +kernel
theorem dX11_stepHere_19 : decode cX11_stepHere 19 = .ok (.iconst 3, 1) := by decide +kernel
theorem dX11_stepHere_20 : decode cX11_stepHere 20 = .ok (.iconst 5, 1) := by decide +kernel
theorem dX11_stepHere_21 : decode cX11_stepHere 21 = .ok (.bipush 12, 2) := by decide +kernel
theorem dX11_stepHere_23 : decode cX11_stepHere 23 = .ok (.bipush 12, 2) := by decide +kernel
theorem dX11_stepHere_25 : decode cX11_stepHere 25 = .ok (.iconst 0, 1) := by decide +kernel
theorem dX11_stepHere_26 : decode cX11_stepHere 26 = .ok (.iconst 0, 1) := by decide +kernel
theorem dX11_stepHere_27 : decode cX11_stepHere 27 = .ok (.invokevirtual 134, 3) := by decide +kernel
theorem dX11_stepHere_30 : decode cX11_stepHere 30 = .ok (.ifCond .eq 5, 3) := by decide +kernel
theorem dX11_stepHere_33 : decode cX11_stepHere 33 = .ok (.iconst 1, 1) := by decide +kernel
theorem dX11_stepHere_34 : decode cX11_stepHere 34 = .ok (.ireturn, 1) := by decide +kernel
theorem dX11_stepHere_35 : decode cX11_stepHere 35 = .ok (.aload_n 0, 1) := by decide +kernel
theorem dX11_stepHere_36 : decode cX11_stepHere 36 = .ok (.iconst 3, 1) := by decide +kernel
theorem dX11_stepHere_37 : decode cX11_stepHere 37 = .ok (.bipush 9, 2) := by decide +kernel
theorem dX11_stepHere_39 : decode cX11_stepHere 39 = .ok (.bipush 18, 2) := by decide +kernel
theorem dX11_stepHere_41 : decode cX11_stepHere 41 = .ok (.iconst 3, 1) := by decide +kernel
theorem dX11_stepHere_42 : decode cX11_stepHere 42 = .ok (.bipush 12, 2) := by decide +kernel
theorem dX11_stepHere_44 : decode cX11_stepHere 44 = .ok (.iconst 5, 1) := by decide +kernel
theorem dX11_stepHere_45 : decode cX11_stepHere 45 = .ok (.invokevirtual 134, 3) := by decide +kernel
theorem dX11_stepHere_48 : decode cX11_stepHere 48 = .ok (.ifCond .eq 5, 3) := by decide +kernel
theorem dX11_stepHere_51 : decode cX11_stepHere 51 = .ok (.iconst 2, 1) := by decide +kernel
theorem dX11_stepHere_52 : decode cX11_stepHere 52 = .ok (.ireturn, 1) := by decide +kernel
theorem dX11_stepHere_53 : decode cX11_stepHere 53 = .ok (.aload_n 0, 1) := by decide +kernel
theorem dX11_stepHere_54 : decode cX11_stepHere 54 = .ok (.iconst 4, 1) := by decide +kernel
theorem dX11_stepHere_55 : decode cX11_stepHere 55 = .ok (.iconst 1, 1) := by decide +kernel
theorem dX11_stepHere_56 : decode cX11_stepHere 56 = .ok (.bipush 25, 2) := by decide +kernel
theorem dX11_stepHere_58 : decode cX11_stepHere 58 = .ok (.iconst 0, 1) := by decide +kernel
theorem dX11_stepHere_59 : decode cX11_stepHere 59 = .ok (.iconst 0, 1) := by decide +kernel
theorem dX11_stepHere_60 : decode cX11_stepHere 60 = .ok (.iconst 0, 1) := by decide +kernel
theorem dX11_stepHere_61 : decode cX11_stepHere 61 = .ok (.invokevirtual 134, 3) := by decide +kernel
theorem dX11_stepHere_64 : decode cX11_stepHere 64 = .ok (.ifCond .eq 5, 3) := by decide +kernel
theorem dX11_stepHere_67 : decode cX11_stepHere 67 = .ok (.iconst 3, 1) := by decide +kernel
theorem dX11_stepHere_68 : decode cX11_stepHere 68 = .ok (.ireturn, 1) := by decide +kernel
theorem dX11_stepHere_69 : decode cX11_stepHere 69 = .ok (.aload_n 0, 1) := by decide +kernel
theorem dX11_stepHere_70 : decode cX11_stepHere 70 = .ok (.bipush 18, 2) := by decide +kernel
theorem dX11_stepHere_72 : decode cX11_stepHere 72 = .ok (.bipush 9, 2) := by decide +kernel
theorem dX11_stepHere_74 : decode cX11_stepHere 74 = .ok (.bipush 14, 2) := by decide +kernel
theorem dX11_stepHere_76 : decode cX11_stepHere 76 = .ok (.bipush 19, 2) := by decide +kernel
theorem dX11_stepHere_78 : decode cX11_stepHere 78 = .ok (.iconst 5, 1) := by decide +kernel
theorem dX11_stepHere_79 : decode cX11_stepHere 79 = .ok (.iconst 0, 1) := by decide +kernel
theorem dX11_stepHere_80 : decode cX11_stepHere 80 = .ok (.invokevirtual 134, 3) := by decide +kernel
theorem dX11_stepHere_83 : decode cX11_stepHere 83 = .ok (.ifCond .eq 5, 3) := by decide +kernel
theorem dX11_stepHere_86 : decode cX11_stepHere 86 = .ok (.iconst 4, 1) := by decide +kernel
theorem dX11_stepHere_87 : decode cX11_stepHere 87 = .ok (.ireturn, 1) := by decide +kernel
theorem dX11_stepHere_88 : decode cX11_stepHere 88 = .ok (.aload_n 0, 1) := by decide +kernel
theorem dX11_stepHere_89 : decode cX11_stepHere 89 = .ok (.iconst 2, 1) := by decide +kernel
theorem dX11_stepHere_90 : decode cX11_stepHere 90 = .ok (.bipush 18, 2) := by decide +kernel
theorem dX11_stepHere_92 : decode cX11_stepHere 92 = .ok (.iconst 5, 1) := by decide +kernel
theorem dX11_stepHere_93 : decode cX11_stepHere 93 = .ok (.iconst 1, 1) := by decide +kernel
theorem dX11_stepHere_94 : decode cX11_stepHere 94 = .ok (.bipush 11, 2) := by decide +kernel
theorem dX11_stepHere_96 : decode cX11_stepHere 96 = .ok (.iconst 0, 1) := by decide +kernel
theorem dX11_stepHere_97 : decode cX11_stepHere 97 = .ok (.invokevirtual 134, 3) := by decide +kernel
theorem dX11_stepHere_100 : decode cX11_stepHere 100 = .ok (.ifCond .eq 5, 3) := by decide +kernel
theorem dX11_stepHere_103 : decode cX11_stepHere 103 = .ok (.iconst 5, 1) := by decide +kernel
theorem dX11_stepHere_104 : decode cX11_stepHere 104 = .ok (.ireturn, 1) := by decide +kernel
theorem dX11_stepHere_105 : decode cX11_stepHere 105 = .ok (.aload_n 0, 1) := by decide +kernel
theorem dX11_stepHere_106 : decode cX11_stepHere 106 = .ok (.iconst 1, 1) := by decide +kernel
theorem dX11_stepHere_107 : decode cX11_stepHere 107 = .ok (.bipush 7, 2) := by decide +kernel
theorem dX11_stepHere_109 : decode cX11_stepHere 109 = .ok (.iconst 1, 1) := by decide +kernel
theorem dX11_stepHere_110 : decode cX11_stepHere 110 = .ok (.bipush 9, 2) := by decide +kernel
theorem dX11_stepHere_112 : decode cX11_stepHere 112 = .ok (.bipush 14, 2) := by decide +kernel
theorem dX11_stepHere_114 : decode cX11_stepHere 114 = .ok (.iconst 0, 1) := by decide +kernel
theorem dX11_stepHere_115 : decode cX11_stepHere 115 = .ok (.invokevirtual 134, 3) := by decide +kernel
theorem dX11_stepHere_118 : decode cX11_stepHere 118 = .ok (.ifCond .eq 8, 3) := by decide +kernel
theorem dX11_stepHere_121 : decode cX11_stepHere 121 = .ok (.bipush 6, 2) := by decide +kernel
theorem dX11_stepHere_123 : decode cX11_stepHere 123 = .ok (.goto 4, 3) := by decide +kernel
theorem dX11_stepHere_126 : decode cX11_stepHere 126 = .ok (.iconst (-1), 1) := by decide +kernel
theorem dX11_stepHere_127 : decode cX11_stepHere 127 = .ok (.ireturn, 1) := by decide +kernel
theorem dX11_readsStep_0 : decode cX11_readsStep 0 = .ok (.aload_n 0, 1) := by decide +kernel
theorem dX11_readsStep_1 : decode cX11_readsStep 1 = .ok (.invokevirtual 228, 3) := by decide +kernel
theorem dX11_readsStep_4 : decode cX11_readsStep 4 = .ok (.istore_n 1, 1) := by decide +kernel
theorem dX11_readsStep_5 : decode cX11_readsStep 5 = .ok (.iload_n 1, 1) := by decide +kernel
theorem dX11_readsStep_6 : decode cX11_readsStep 6 = .ok (.iconst (-1), 1) := by decide +kernel
theorem dX11_readsStep_7 : decode cX11_readsStep 7 = .ok (.if_icmp .ne 12, 3) := by decide +kernel
theorem dX11_readsStep_10 : decode cX11_readsStep 10 = .ok (.aload_n 0, 1) := by decide +kernel
theorem dX11_readsStep_11 : decode cX11_readsStep 11 = .ok (.iconst 1, 1) := by decide +kernel
theorem dX11_readsStep_12 : decode cX11_readsStep 12 = .ok (.aload_n 0, 1) := by decide +kernel
theorem dX11_readsStep_13 : decode cX11_readsStep 13 = .ok (.getfield 94, 3) := by decide +kernel
theorem dX11_readsStep_16 : decode cX11_readsStep 16 = .ok (.invokevirtual 114, 3) := by decide +kernel
theorem dX11_readsStep_19 : decode cX11_readsStep 19 = .ok (.iload_n 1, 1) := by decide +kernel
theorem dX11_readsStep_20 : decode cX11_readsStep 20 = .ok (.bipush 6, 2) := by decide +kernel
theorem dX11_readsStep_22 : decode cX11_readsStep 22 = .ok (.if_icmp .ne 11, 3) := by decide +kernel
theorem dX11_readsStep_25 : decode cX11_readsStep 25 = .ok (.aload_n 0, 1) := by decide +kernel
theorem dX11_readsStep_26 : decode cX11_readsStep 26 = .ok (.invokevirtual 208, 3) := by decide +kernel
theorem dX11_readsStep_29 : decode cX11_readsStep 29 = .ok (.ifCond .ne 4, 3) := by decide +kernel
theorem dX11_readsStep_32 : decode cX11_readsStep 32 = .ok (.return_, 1) := by decide +kernel
theorem dX11_readsStep_33 : decode cX11_readsStep 33 = .ok (.aload_n 0, 1) := by decide +kernel
theorem dX11_readsStep_34 : decode cX11_readsStep 34 = .ok (.getfield 101, 3) := by decide +kernel
theorem dX11_readsStep_37 : decode cX11_readsStep 37 = .ok (.ifCond .eq 4, 3) := by decide +kernel
theorem dX11_readsStep_40 : decode cX11_readsStep 40 = .ok (.return_, 1) := by decide +kernel
theorem dX11_readsStep_41 : decode cX11_readsStep 41 = .ok (.aload_n 0, 1) := by decide +kernel
theorem dX11_readsStep_42 : decode cX11_readsStep 42 = .ok (.invokevirtual 138, 3) := by decide +kernel
theorem dX11_readsStep_45 : decode cX11_readsStep 45 = .ok (.aload_n 0, 1) := by decide +kernel
theorem dX11_readsStep_46 : decode cX11_readsStep 46 = .ok (.getfield 64, 3) := by decide +kernel
theorem dX11_readsStep_49 : decode cX11_readsStep 49 = .ok (.aload_n 0, 1) := by decide +kernel
theorem dX11_readsStep_50 : decode cX11_readsStep 50 = .ok (.getfield 231, 3) := by decide +kernel
theorem dX11_readsStep_53 : decode cX11_readsStep 53 = .ok (.aaload, 1) := by decide +kernel
theorem dX11_readsStep_54 : decode cX11_readsStep 54 = .ok (.astore_n 2, 1) := by decide +kernel
theorem dX11_readsStep_55 : decode cX11_readsStep 55 = .ok (.aload_n 0, 1) := by decide +kernel
theorem dX11_readsStep_56 : decode cX11_readsStep 56 = .ok (.dup, 1) := by decide +kernel
theorem dX11_readsStep_57 : decode cX11_readsStep 57 = .ok (.getfield 231, 3) := by decide +kernel
theorem dX11_readsStep_60 : decode cX11_readsStep 60 = .ok (.iconst 1, 1) := by decide +kernel
theorem dX11_readsStep_61 : decode cX11_readsStep 61 = .ok (.iadd, 1) := by decide +kernel
theorem dX11_readsStep_62 : decode cX11_readsStep 62 = .ok (.putfield 231, 3) := by decide +kernel
theorem dX11_readsStep_65 : decode cX11_readsStep 65 = .ok (.aload_n 2, 1) := by decide +kernel
theorem dX11_readsStep_66 : decode cX11_readsStep 66 = .ok (.iconst 0, 1) := by decide +kernel
theorem dX11_readsStep_67 : decode cX11_readsStep 67 = .ok (.iload_n 1, 1) := by decide +kernel
theorem dX11_readsStep_68 : decode cX11_readsStep 68 = .ok (.iastore, 1) := by decide +kernel
theorem dX11_readsStep_69 : decode cX11_readsStep 69 = .ok (.iload_n 1, 1) := by decide +kernel
theorem dX11_readsStep_70 : decode cX11_readsStep 70 = .ok (.iconst 3, 1) := by decide +kernel
theorem dX11_readsStep_71 : decode cX11_readsStep 71 = .ok (.if_icmp .lt 8, 3) := by decide +kernel
theorem dX11_readsStep_74 : decode cX11_readsStep 74 = .ok (.iload_n 1, 1) := by decide +kernel
theorem dX11_readsStep_75 : decode cX11_readsStep 75 = .ok (.iconst 5, 1) := by decide +kernel
theorem dX11_readsStep_76 : decode cX11_readsStep 76 = .ok (.if_icmp .ne 19, 3) := by decide +kernel
theorem dX11_readsStep_79 : decode cX11_readsStep 79 = .ok (.aload_n 2, 1) := by decide +kernel
theorem dX11_readsStep_80 : decode cX11_readsStep 80 = .ok (.iconst 1, 1) := by decide +kernel
theorem dX11_readsStep_81 : decode cX11_readsStep 81 = .ok (.aload_n 0, 1) := by decide +kernel
theorem dX11_readsStep_82 : decode cX11_readsStep 82 = .ok (.iconst 0, 1) := by decide +kernel
theorem dX11_readsStep_83 : decode cX11_readsStep 83 = .ok (.aload_n 0, 1) := by decide +kernel
theorem dX11_readsStep_84 : decode cX11_readsStep 84 = .ok (.getfield 23, 3) := by decide +kernel
theorem dX11_readsStep_87 : decode cX11_readsStep 87 = .ok (.iconst 0, 1) := by decide +kernel
theorem dX11_readsStep_88 : decode cX11_readsStep 88 = .ok (.iaload, 1) := by decide +kernel
theorem dX11_readsStep_89 : decode cX11_readsStep 89 = .ok (.iconst 1, 1) := by decide +kernel
theorem dX11_readsStep_90 : decode cX11_readsStep 90 = .ok (.isub, 1) := by decide +kernel
theorem dX11_readsStep_91 : decode cX11_readsStep 91 = .ok (.invokevirtual 150, 3) := by decide +kernel
theorem dX11_readsStep_94 : decode cX11_readsStep 94 = .ok (.iastore, 1) := by decide +kernel
theorem dX11_readsStep_95 : decode cX11_readsStep 95 = .ok (.aload_n 0, 1) := by decide +kernel
theorem dX11_readsStep_96 : decode cX11_readsStep 96 = .ok (.getfield 101, 3) := by decide +kernel
theorem dX11_readsStep_99 : decode cX11_readsStep 99 = .ok (.ifCond .ne 53, 3) := by decide +kernel
theorem dX11_readsStep_102 : decode cX11_readsStep 102 = .ok (.iload_n 1, 1) := by decide +kernel
theorem dX11_readsStep_103 : decode cX11_readsStep 103 = .ok (.iconst 1, 1) := by decide +kernel
theorem dX11_readsStep_104 : decode cX11_readsStep 104 = .ok (.if_icmp .eq 8, 3) := by decide +kernel
theorem dX11_readsStep_107 : decode cX11_readsStep 107 = .ok (.iload_n 1, 1) := by decide +kernel
theorem dX11_readsStep_108 : decode cX11_readsStep 108 = .ok (.iconst 2, 1) := by decide +kernel
theorem dX11_readsStep_109 : decode cX11_readsStep 109 = .ok (.if_icmp .ne 43, 3) := by decide +kernel
theorem dX11_readsStep_112 : decode cX11_readsStep 112 = .ok (.aload_n 2, 1) := by decide +kernel
theorem dX11_readsStep_113 : decode cX11_readsStep 113 = .ok (.iconst 2, 1) := by decide +kernel
theorem dX11_readsStep_114 : decode cX11_readsStep 114 = .ok (.aload_n 0, 1) := by decide +kernel
theorem dX11_readsStep_115 : decode cX11_readsStep 115 = .ok (.iconst 0, 1) := by decide +kernel
theorem dX11_readsStep_116 : decode cX11_readsStep 116 = .ok (.aload_n 0, 1) := by decide +kernel
theorem dX11_readsStep_117 : decode cX11_readsStep 117 = .ok (.getfield 31, 3) := by decide +kernel
theorem dX11_readsStep_120 : decode cX11_readsStep 120 = .ok (.aload_n 2, 1) := by decide +kernel
theorem dX11_readsStep_121 : decode cX11_readsStep 121 = .ok (.iconst 1, 1) := by decide +kernel
theorem dX11_readsStep_122 : decode cX11_readsStep 122 = .ok (.iaload, 1) := by decide +kernel
theorem dX11_readsStep_123 : decode cX11_readsStep 123 = .ok (.aaload, 1) := by decide +kernel
theorem dX11_readsStep_124 : decode cX11_readsStep 124 = .ok (.iconst 0, 1) := by decide +kernel
theorem dX11_readsStep_125 : decode cX11_readsStep 125 = .ok (.iaload, 1) := by decide +kernel
theorem dX11_readsStep_126 : decode cX11_readsStep 126 = .ok (.iconst 1, 1) := by decide +kernel
theorem dX11_readsStep_127 : decode cX11_readsStep 127 = .ok (.isub, 1) := by decide +kernel
theorem dX11_readsStep_128 : decode cX11_readsStep 128 = .ok (.invokevirtual 150, 3) := by decide +kernel
theorem dX11_readsStep_131 : decode cX11_readsStep 131 = .ok (.iastore, 1) := by decide +kernel
theorem dX11_readsStep_132 : decode cX11_readsStep 132 = .ok (.aload_n 2, 1) := by decide +kernel
theorem dX11_readsStep_133 : decode cX11_readsStep 133 = .ok (.iconst 3, 1) := by decide +kernel
theorem dX11_readsStep_134 : decode cX11_readsStep 134 = .ok (.aload_n 0, 1) := by decide +kernel
theorem dX11_readsStep_135 : decode cX11_readsStep 135 = .ok (.iconst 0, 1) := by decide +kernel
theorem dX11_readsStep_136 : decode cX11_readsStep 136 = .ok (.aload_n 0, 1) := by decide +kernel
theorem dX11_readsStep_137 : decode cX11_readsStep 137 = .ok (.getfield 31, 3) := by decide +kernel
theorem dX11_readsStep_140 : decode cX11_readsStep 140 = .ok (.aload_n 2, 1) := by decide +kernel
theorem dX11_readsStep_141 : decode cX11_readsStep 141 = .ok (.iconst 1, 1) := by decide +kernel
theorem dX11_readsStep_142 : decode cX11_readsStep 142 = .ok (.iaload, 1) := by decide +kernel
theorem dX11_readsStep_143 : decode cX11_readsStep 143 = .ok (.aaload, 1) := by decide +kernel
theorem dX11_readsStep_144 : decode cX11_readsStep 144 = .ok (.iconst 1, 1) := by decide +kernel
theorem dX11_readsStep_145 : decode cX11_readsStep 145 = .ok (.iaload, 1) := by decide +kernel
theorem dX11_readsStep_146 : decode cX11_readsStep 146 = .ok (.iconst 1, 1) := by decide +kernel
theorem dX11_readsStep_147 : decode cX11_readsStep 147 = .ok (.isub, 1) := by decide +kernel
theorem dX11_readsStep_148 : decode cX11_readsStep 148 = .ok (.invokevirtual 150, 3) := by decide +kernel
theorem dX11_readsStep_151 : decode cX11_readsStep 151 = .ok (.iastore, 1) := by decide +kernel
theorem dX11_readsStep_152 : decode cX11_readsStep 152 = .ok (.iload_n 1, 1) := by decide +kernel
theorem dX11_readsStep_153 : decode cX11_readsStep 153 = .ok (.iconst 2, 1) := by decide +kernel
theorem dX11_readsStep_154 : decode cX11_readsStep 154 = .ok (.if_icmp .ne 13, 3) := by decide +kernel
theorem dX11_readsStep_157 : decode cX11_readsStep 157 = .ok (.aload_n 2, 1) := by decide +kernel
theorem dX11_readsStep_158 : decode cX11_readsStep 158 = .ok (.iconst 4, 1) := by decide +kernel
theorem dX11_readsStep_159 : decode cX11_readsStep 159 = .ok (.aload_n 0, 1) := by decide +kernel
theorem dX11_readsStep_160 : decode cX11_readsStep 160 = .ok (.iconst 0, 1) := by decide +kernel
theorem dX11_readsStep_161 : decode cX11_readsStep 161 = .ok (.bipush 6, 2) := by decide +kernel
theorem dX11_readsStep_163 : decode cX11_readsStep 163 = .ok (.invokevirtual 150, 3) := by decide +kernel
theorem dX11_readsStep_166 : decode cX11_readsStep 166 = .ok (.iastore, 1) := by decide +kernel
theorem dX11_readsStep_167 : decode cX11_readsStep 167 = .ok (.iload_n 1, 1) := by decide +kernel
theorem dX11_readsStep_168 : decode cX11_readsStep 168 = .ok (.iconst 3, 1) := by decide +kernel
theorem dX11_readsStep_169 : decode cX11_readsStep 169 = .ok (.if_icmp .ge 13, 3) := by decide +kernel
theorem dX11_readsStep_172 : decode cX11_readsStep 172 = .ok (.aload_n 2, 1) := by decide +kernel
theorem dX11_readsStep_173 : decode cX11_readsStep 173 = .ok (.iconst 5, 1) := by decide +kernel
theorem dX11_readsStep_174 : decode cX11_readsStep 174 = .ok (.aload_n 0, 1) := by decide +kernel
theorem dX11_readsStep_175 : decode cX11_readsStep 175 = .ok (.iconst 1, 1) := by decide +kernel
theorem dX11_readsStep_176 : decode cX11_readsStep 176 = .ok (.bipush 30, 2) := by decide +kernel
theorem dX11_readsStep_178 : decode cX11_readsStep 178 = .ok (.invokevirtual 150, 3) := by decide +kernel
theorem dX11_readsStep_181 : decode cX11_readsStep 181 = .ok (.iastore, 1) := by decide +kernel
theorem dX11_readsStep_182 : decode cX11_readsStep 182 = .ok (.iload_n 1, 1) := by decide +kernel
theorem dX11_readsStep_183 : decode cX11_readsStep 183 = .ok (.bipush 6, 2) := by decide +kernel
theorem dX11_readsStep_185 : decode cX11_readsStep 185 = .ok (.if_icmp .ne 70, 3) := by decide +kernel
theorem dX11_readsStep_188 : decode cX11_readsStep 188 = .ok (.aload_n 2, 1) := by decide +kernel
theorem dX11_readsStep_189 : decode cX11_readsStep 189 = .ok (.iconst 1, 1) := by decide +kernel
theorem dX11_readsStep_190 : decode cX11_readsStep 190 = .ok (.aload_n 0, 1) := by decide +kernel
theorem dX11_readsStep_191 : decode cX11_readsStep 191 = .ok (.iconst 0, 1) := by decide +kernel
theorem dX11_readsStep_192 : decode cX11_readsStep 192 = .ok (.bipush 20, 2) := by decide +kernel
theorem dX11_readsStep_194 : decode cX11_readsStep 194 = .ok (.invokevirtual 150, 3) := by decide +kernel
theorem dX11_readsStep_197 : decode cX11_readsStep 197 = .ok (.iastore, 1) := by decide +kernel
theorem dX11_readsStep_198 : decode cX11_readsStep 198 = .ok (.aload_n 0, 1) := by decide +kernel
theorem dX11_readsStep_199 : decode cX11_readsStep 199 = .ok (.bipush 91, 2) := by decide +kernel
theorem dX11_readsStep_201 : decode cX11_readsStep 201 = .ok (.invokevirtual 154, 3) := by decide +kernel
theorem dX11_readsStep_204 : decode cX11_readsStep 204 = .ok (.aload_n 0, 1) := by decide +kernel
theorem dX11_readsStep_205 : decode cX11_readsStep 205 = .ok (.invokevirtual 107, 3) := by decide +kernel
theorem dX11_readsStep_208 : decode cX11_readsStep 208 = .ok (.aload_n 0, 1) := by decide +kernel
theorem dX11_readsStep_209 : decode cX11_readsStep 209 = .ok (.getfield 101, 3) := by decide +kernel
theorem dX11_readsStep_212 : decode cX11_readsStep 212 = .ok (.ifCond .ne 27, 3) := by decide +kernel
theorem dX11_readsStep_215 : decode cX11_readsStep 215 = .ok (.aload_n 0, 1) := by decide +kernel
theorem dX11_readsStep_216 : decode cX11_readsStep 216 = .ok (.aload_n 0, 1) := by decide +kernel
theorem dX11_readsStep_217 : decode cX11_readsStep 217 = .ok (.getfield 94, 3) := by decide +kernel
theorem dX11_readsStep_220 : decode cX11_readsStep 220 = .ok (.invokevirtual 97, 3) := by decide +kernel
theorem dX11_readsStep_223 : decode cX11_readsStep 223 = .ok (.bipush 93, 2) := by decide +kernel
theorem dX11_readsStep_225 : decode cX11_readsStep 225 = .ok (.if_icmp .eq 14, 3) := by decide +kernel
theorem dX11_readsStep_228 : decode cX11_readsStep 228 = .ok (.aload_n 0, 1) := by decide +kernel
theorem dX11_readsStep_229 : decode cX11_readsStep 229 = .ok (.invokevirtual 234, 3) := by decide +kernel
theorem dX11_readsStep_232 : decode cX11_readsStep 232 = .ok (.aload_n 0, 1) := by decide +kernel
theorem dX11_readsStep_233 : decode cX11_readsStep 233 = .ok (.invokevirtual 107, 3) := by decide +kernel
theorem dX11_readsStep_236 : decode cX11_readsStep 236 = .ok (.goto (-28), 3) := by decide +kernel
theorem dX11_readsStep_239 : decode cX11_readsStep 239 = .ok (.aload_n 0, 1) := by decide +kernel
theorem dX11_readsStep_240 : decode cX11_readsStep 240 = .ok (.bipush 93, 2) := by decide +kernel
theorem dX11_readsStep_242 : decode cX11_readsStep 242 = .ok (.invokevirtual 154, 3) := by decide +kernel
theorem dX11_readsStep_245 : decode cX11_readsStep 245 = .ok (.aload_n 0, 1) := by decide +kernel
theorem dX11_readsStep_246 : decode cX11_readsStep 246 = .ok (.dup, 1) := by decide +kernel
theorem dX11_readsStep_247 : decode cX11_readsStep 247 = .ok (.getfield 144, 3) := by decide +kernel
theorem dX11_readsStep_250 : decode cX11_readsStep 250 = .ok (.iconst 1, 1) := by decide +kernel
theorem dX11_readsStep_251 : decode cX11_readsStep 251 = .ok (.isub, 1) := by decide +kernel
theorem dX11_readsStep_252 : decode cX11_readsStep 252 = .ok (.putfield 144, 3) := by decide +kernel
theorem dX11_readsStep_255 : decode cX11_readsStep 255 = .ok (.aload_n 2, 1) := by decide +kernel
theorem dX11_readsStep_256 : decode cX11_readsStep 256 = .ok (.bipush 6, 2) := by decide +kernel
theorem dX11_readsStep_258 : decode cX11_readsStep 258 = .ok (.aload_n 0, 1) := by decide +kernel
theorem dX11_readsStep_259 : decode cX11_readsStep 259 = .ok (.getfield 231, 3) := by decide +kernel
theorem dX11_readsStep_262 : decode cX11_readsStep 262 = .ok (.iastore, 1) := by decide +kernel
theorem dX11_readsStep_263 : decode cX11_readsStep 263 = .ok (.aload_n 0, 1) := by decide +kernel
theorem dX11_readsStep_264 : decode cX11_readsStep 264 = .ok (.bipush 59, 2) := by decide +kernel
theorem dX11_readsStep_266 : decode cX11_readsStep 266 = .ok (.invokevirtual 154, 3) := by decide +kernel
theorem dX11_readsStep_269 : decode cX11_readsStep 269 = .ok (.return_, 1) := by decide +kernel
theorem dX11_book_0 : decode cX11_book 0 = .ok (.aload_n 0, 1) := by decide +kernel
theorem dX11_book_1 : decode cX11_book 1 = .ok (.iconst 0, 1) := by decide +kernel
theorem dX11_book_2 : decode cX11_book 2 = .ok (.putfield 85, 3) := by decide +kernel
theorem dX11_book_5 : decode cX11_book 5 = .ok (.aload_n 0, 1) := by decide +kernel
theorem dX11_book_6 : decode cX11_book 6 = .ok (.iload_n 1, 1) := by decide +kernel
theorem dX11_book_7 : decode cX11_book 7 = .ok (.iconst 0, 1) := by decide +kernel
theorem dX11_book_8 : decode cX11_book 8 = .ok (.aload_n 0, 1) := by decide +kernel
theorem dX11_book_9 : decode cX11_book 9 = .ok (.getfield 88, 3) := by decide +kernel
theorem dX11_book_12 : decode cX11_book 12 = .ok (.invokestatic 119, 3) := by decide +kernel
theorem dX11_book_15 : decode cX11_book 15 = .ok (.ifCond .eq 9, 3) := by decide +kernel
theorem dX11_book_18 : decode cX11_book 18 = .ok (.iload_n 1, 1) := by decide +kernel
theorem dX11_book_19 : decode cX11_book 19 = .ok (.bipush 100, 2) := by decide +kernel
theorem dX11_book_21 : decode cX11_book 21 = .ok (.if_icmp .le 7, 3) := by decide +kernel
theorem dX11_book_24 : decode cX11_book 24 = .ok (.iconst 1, 1) := by decide +kernel
theorem dX11_book_25 : decode cX11_book 25 = .ok (.goto 4, 3) := by decide +kernel
theorem dX11_book_28 : decode cX11_book 28 = .ok (.iconst 0, 1) := by decide +kernel
theorem dX11_book_29 : decode cX11_book 29 = .ok (.iconst 1, 1) := by decide +kernel
theorem dX11_book_30 : decode cX11_book 30 = .ok (.iconst 2, 1) := by decide +kernel
theorem dX11_book_31 : decode cX11_book 31 = .ok (.invokevirtual 158, 3) := by decide +kernel
theorem dX11_book_34 : decode cX11_book 34 = .ok (.ifCond .eq 5, 3) := by decide +kernel
theorem dX11_book_37 : decode cX11_book 37 = .ok (.iconst 0, 1) := by decide +kernel
theorem dX11_book_38 : decode cX11_book 38 = .ok (.ireturn, 1) := by decide +kernel
theorem dX11_book_39 : decode cX11_book 39 = .ok (.aload_n 0, 1) := by decide +kernel
theorem dX11_book_40 : decode cX11_book 40 = .ok (.iload_n 1, 1) := by decide +kernel
theorem dX11_book_41 : decode cX11_book 41 = .ok (.invokevirtual 162, 3) := by decide +kernel
theorem dX11_book_44 : decode cX11_book 44 = .ok (.iconst 0, 1) := by decide +kernel
theorem dX11_book_45 : decode cX11_book 45 = .ok (.istore_n 2, 1) := by decide +kernel
theorem dX11_book_46 : decode cX11_book 46 = .ok (.aload_n 0, 1) := by decide +kernel
theorem dX11_book_47 : decode cX11_book 47 = .ok (.getfield 101, 3) := by decide +kernel
theorem dX11_book_50 : decode cX11_book 50 = .ok (.ifCond .ne 182, 3) := by decide +kernel
theorem dX11_book_53 : decode cX11_book 53 = .ok (.aload_n 0, 1) := by decide +kernel
theorem dX11_book_54 : decode cX11_book 54 = .ok (.getfield 94, 3) := by decide +kernel
theorem dX11_book_57 : decode cX11_book 57 = .ok (.aload_n 0, 1) := by decide +kernel
theorem dX11_book_58 : decode cX11_book 58 = .ok (.getfield 91, 3) := by decide +kernel
theorem dX11_book_61 : decode cX11_book 61 = .ok (.if_icmp .ge 171, 3) := by decide +kernel
theorem dX11_book_64 : decode cX11_book 64 = .ok (.aload_n 0, 1) := by decide +kernel
theorem dX11_book_65 : decode cX11_book 65 = .ok (.getfield 94, 3) := by decide +kernel
theorem dX11_book_68 : decode cX11_book 68 = .ok (.istore_n 3, 1) := by decide +kernel
theorem dX11_book_69 : decode cX11_book 69 = .ok (.aload_n 0, 1) := by decide +kernel
theorem dX11_book_70 : decode cX11_book 70 = .ok (.iconst 0, 1) := by decide +kernel
theorem dX11_book_71 : decode cX11_book 71 = .ok (.iconst 3, 1) := by decide +kernel
theorem dX11_book_72 : decode cX11_book 72 = .ok (.invokevirtual 150, 3) := by decide +kernel
theorem dX11_book_75 : decode cX11_book 75 = .ok (.istore 4, 2) := by decide +kernel
theorem dX11_book_77 : decode cX11_book 77 = .ok (.aload_n 0, 1) := by decide +kernel
theorem dX11_book_78 : decode cX11_book 78 = .ok (.getfield 101, 3) := by decide +kernel
theorem dX11_book_81 : decode cX11_book 81 = .ok (.ifCond .ne 15, 3) := by decide +kernel
theorem dX11_book_84 : decode cX11_book 84 = .ok (.iload_n 2, 1) := by decide +kernel
theorem dX11_book_85 : decode cX11_book 85 = .ok (.bipush 8, 2) := by decide +kernel
theorem dX11_book_87 : decode cX11_book 87 = .ok (.if_icmp .ne 9, 3) := by decide +kernel
theorem dX11_book_90 : decode cX11_book 90 = .ok (.aload_n 0, 1) := by decide +kernel
theorem dX11_book_91 : decode cX11_book 91 = .ok (.iconst 3, 1) := by decide +kernel
theorem dX11_book_92 : decode cX11_book 92 = .ok (.iload_n 3, 1) := by decide +kernel
theorem dX11_book_93 : decode cX11_book 93 = .ok (.invokevirtual 114, 3) := by decide +kernel
theorem dX11_book_96 : decode cX11_book 96 = .ok (.aload_n 0, 1) := by decide +kernel
theorem dX11_book_97 : decode cX11_book 97 = .ok (.invokevirtual 107, 3) := by decide +kernel
theorem dX11_book_100 : decode cX11_book 100 = .ok (.aload_n 0, 1) := by decide +kernel
theorem dX11_book_101 : decode cX11_book 101 = .ok (.getfield 94, 3) := by decide +kernel
theorem dX11_book_104 : decode cX11_book 104 = .ok (.istore_n 3, 1) := by decide +kernel
theorem dX11_book_105 : decode cX11_book 105 = .ok (.aload_n 0, 1) := by decide +kernel
theorem dX11_book_106 : decode cX11_book 106 = .ok (.iconst 0, 1) := by decide +kernel
theorem dX11_book_107 : decode cX11_book 107 = .ok (.iconst 3, 1) := by decide +kernel
theorem dX11_book_108 : decode cX11_book 108 = .ok (.invokevirtual 150, 3) := by decide +kernel
theorem dX11_book_111 : decode cX11_book 111 = .ok (.istore 5, 2) := by decide +kernel
theorem dX11_book_113 : decode cX11_book 113 = .ok (.iconst 0, 1) := by decide +kernel
theorem dX11_book_114 : decode cX11_book 114 = .ok (.istore 6, 2) := by decide +kernel
theorem dX11_book_116 : decode cX11_book 116 = .ok (.iload 6, 2) := by decide +kernel
theorem dX11_book_118 : decode cX11_book 118 = .ok (.iload_n 2, 1) := by decide +kernel
theorem dX11_book_119 : decode cX11_book 119 = .ok (.if_icmp .ge 50, 3) := by decide +kernel
theorem dX11_book_122 : decode cX11_book 122 = .ok (.aload_n 0, 1) := by decide +kernel
theorem dX11_book_123 : decode cX11_book 123 = .ok (.getfield 101, 3) := by decide +kernel
theorem dX11_book_126 : decode cX11_book 126 = .ok (.ifCond .ne 37, 3) := by decide +kernel
theorem dX11_book_129 : decode cX11_book 129 = .ok (.aload_n 0, 1) := by decide +kernel
theorem dX11_book_130 : decode cX11_book 130 = .ok (.getfield 55, 3) := by decide +kernel
theorem dX11_book_133 : decode cX11_book 133 = .ok (.iload 6, 2) := by decide +kernel
theorem dX11_book_135 : decode cX11_book 135 = .ok (.aaload, 1) := by decide +kernel
theorem dX11_book_136 : decode cX11_book 136 = .ok (.iconst 0, 1) := by decide +kernel
theorem dX11_book_137 : decode cX11_book 137 = .ok (.iaload, 1) := by decide +kernel
theorem dX11_book_138 : decode cX11_book 138 = .ok (.iload 4, 2) := by decide +kernel
theorem dX11_book_140 : decode cX11_book 140 = .ok (.if_icmp .ne 23, 3) := by decide +kernel
theorem dX11_book_143 : decode cX11_book 143 = .ok (.aload_n 0, 1) := by decide +kernel
theorem dX11_book_144 : decode cX11_book 144 = .ok (.getfield 55, 3) := by decide +kernel
theorem dX11_book_147 : decode cX11_book 147 = .ok (.iload 6, 2) := by decide +kernel
theorem dX11_book_149 : decode cX11_book 149 = .ok (.aaload, 1) := by decide +kernel
theorem dX11_book_150 : decode cX11_book 150 = .ok (.iconst 1, 1) := by decide +kernel
theorem dX11_book_151 : decode cX11_book 151 = .ok (.iaload, 1) := by decide +kernel
theorem dX11_book_152 : decode cX11_book 152 = .ok (.iload 5, 2) := by decide +kernel
theorem dX11_book_154 : decode cX11_book 154 = .ok (.if_icmp .ne 9, 3) := by decide +kernel
theorem dX11_book_157 : decode cX11_book 157 = .ok (.aload_n 0, 1) := by decide +kernel
theorem dX11_book_158 : decode cX11_book 158 = .ok (.iconst 2, 1) := by decide +kernel
theorem dX11_book_159 : decode cX11_book 159 = .ok (.iload_n 3, 1) := by decide +kernel
theorem dX11_book_160 : decode cX11_book 160 = .ok (.invokevirtual 114, 3) := by decide +kernel
theorem dX11_book_163 : decode cX11_book 163 = .ok (.iinc 6 1, 3) := by decide +kernel
theorem dX11_book_166 : decode cX11_book 166 = .ok (.goto (-50), 3) := by decide +kernel
theorem dX11_book_169 : decode cX11_book 169 = .ok (.aload_n 0, 1) := by decide +kernel
theorem dX11_book_170 : decode cX11_book 170 = .ok (.iconst 0, 1) := by decide +kernel
theorem dX11_book_171 : decode cX11_book 171 = .ok (.sipush 200, 3) := by decide +kernel
theorem dX11_book_174 : decode cX11_book 174 = .ok (.invokevirtual 150, 3) := by decide +kernel
theorem dX11_book_177 : decode cX11_book 177 = .ok (.istore 6, 2) := by decide +kernel
theorem dX11_book_179 : decode cX11_book 179 = .ok (.aload_n 0, 1) := by decide +kernel
theorem dX11_book_180 : decode cX11_book 180 = .ok (.bipush 59, 2) := by decide +kernel
theorem dX11_book_182 : decode cX11_book 182 = .ok (.invokevirtual 154, 3) := by decide +kernel
theorem dX11_book_185 : decode cX11_book 185 = .ok (.aload_n 0, 1) := by decide +kernel
theorem dX11_book_186 : decode cX11_book 186 = .ok (.getfield 101, 3) := by decide +kernel
theorem dX11_book_189 : decode cX11_book 189 = .ok (.ifCond .ne 36, 3) := by decide +kernel
theorem dX11_book_192 : decode cX11_book 192 = .ok (.aload_n 0, 1) := by decide +kernel
theorem dX11_book_193 : decode cX11_book 193 = .ok (.getfield 55, 3) := by decide +kernel
theorem dX11_book_196 : decode cX11_book 196 = .ok (.iload_n 2, 1) := by decide +kernel
theorem dX11_book_197 : decode cX11_book 197 = .ok (.aaload, 1) := by decide +kernel
theorem dX11_book_198 : decode cX11_book 198 = .ok (.iconst 0, 1) := by decide +kernel
theorem dX11_book_199 : decode cX11_book 199 = .ok (.iload 4, 2) := by decide +kernel
theorem dX11_book_201 : decode cX11_book 201 = .ok (.iastore, 1) := by decide +kernel
theorem dX11_book_202 : decode cX11_book 202 = .ok (.aload_n 0, 1) := by decide +kernel
theorem dX11_book_203 : decode cX11_book 203 = .ok (.getfield 55, 3) := by decide +kernel
theorem dX11_book_206 : decode cX11_book 206 = .ok (.iload_n 2, 1) := by decide +kernel
theorem dX11_book_207 : decode cX11_book 207 = .ok (.aaload, 1) := by decide +kernel
theorem dX11_book_208 : decode cX11_book 208 = .ok (.iconst 1, 1) := by decide +kernel
theorem dX11_book_209 : decode cX11_book 209 = .ok (.iload 5, 2) := by decide +kernel
theorem dX11_book_211 : decode cX11_book 211 = .ok (.iastore, 1) := by decide +kernel
theorem dX11_book_212 : decode cX11_book 212 = .ok (.aload_n 0, 1) := by decide +kernel
theorem dX11_book_213 : decode cX11_book 213 = .ok (.getfield 55, 3) := by decide +kernel
theorem dX11_book_216 : decode cX11_book 216 = .ok (.iload_n 2, 1) := by decide +kernel
theorem dX11_book_217 : decode cX11_book 217 = .ok (.aaload, 1) := by decide +kernel
theorem dX11_book_218 : decode cX11_book 218 = .ok (.iconst 2, 1) := by decide +kernel
theorem dX11_book_219 : decode cX11_book 219 = .ok (.iload 6, 2) := by decide +kernel
theorem dX11_book_221 : decode cX11_book 221 = .ok (.iastore, 1) := by decide +kernel
theorem dX11_book_222 : decode cX11_book 222 = .ok (.iinc 2 1, 3) := by decide +kernel
theorem dX11_book_225 : decode cX11_book 225 = .ok (.aload_n 0, 1) := by decide +kernel
theorem dX11_book_226 : decode cX11_book 226 = .ok (.invokevirtual 107, 3) := by decide +kernel
theorem dX11_book_229 : decode cX11_book 229 = .ok (.goto (-183), 3) := by decide +kernel
theorem dX11_book_232 : decode cX11_book 232 = .ok (.aload_n 0, 1) := by decide +kernel
theorem dX11_book_233 : decode cX11_book 233 = .ok (.getfield 101, 3) := by decide +kernel
theorem dX11_book_236 : decode cX11_book 236 = .ok (.ifCond .eq 8, 3) := by decide +kernel
theorem dX11_book_239 : decode cX11_book 239 = .ok (.aload_n 0, 1) := by decide +kernel
theorem dX11_book_240 : decode cX11_book 240 = .ok (.invokevirtual 168, 3) := by decide +kernel
theorem dX11_book_243 : decode cX11_book 243 = .ok (.ireturn, 1) := by decide +kernel
theorem dX11_book_244 : decode cX11_book 244 = .ok (.aload_n 0, 1) := by decide +kernel
theorem dX11_book_245 : decode cX11_book 245 = .ok (.iconst (-1), 1) := by decide +kernel
theorem dX11_book_246 : decode cX11_book 246 = .ok (.putfield 9, 3) := by decide +kernel
theorem dX11_book_249 : decode cX11_book 249 = .ok (.aload_n 0, 1) := by decide +kernel
theorem dX11_book_250 : decode cX11_book 250 = .ok (.iload_n 2, 1) := by decide +kernel
theorem dX11_book_251 : decode cX11_book 251 = .ok (.putfield 178, 3) := by decide +kernel
theorem dX11_book_254 : decode cX11_book 254 = .ok (.aload_n 0, 1) := by decide +kernel
theorem dX11_book_255 : decode cX11_book 255 = .ok (.getfield 55, 3) := by decide +kernel
theorem dX11_book_258 : decode cX11_book 258 = .ok (.aload_n 0, 1) := by decide +kernel
theorem dX11_book_259 : decode cX11_book 259 = .ok (.getfield 52, 3) := by decide +kernel
theorem dX11_book_262 : decode cX11_book 262 = .ok (.iload_n 2, 1) := by decide +kernel
theorem dX11_book_263 : decode cX11_book 263 = .ok (.invokestatic 171, 3) := by decide +kernel
theorem dX11_book_266 : decode cX11_book 266 = .ok (.iload_n 2, 1) := by decide +kernel
theorem dX11_book_267 : decode cX11_book 267 = .ok (.ireturn, 1) := by decide +kernel
theorem dX11_fault_0 : decode cX11_fault 0 = .ok (.aload_n 0, 1) := by decide +kernel
theorem dX11_fault_1 : decode cX11_fault 1 = .ok (.iconst 0, 1) := by decide +kernel
theorem dX11_fault_2 : decode cX11_fault 2 = .ok (.putfield 85, 3) := by decide +kernel
theorem dX11_fault_5 : decode cX11_fault 5 = .ok (.aload_n 0, 1) := by decide +kernel
theorem dX11_fault_6 : decode cX11_fault 6 = .ok (.getfield 9, 3) := by decide +kernel
theorem dX11_fault_9 : decode cX11_fault 9 = .ok (.ireturn, 1) := by decide +kernel
theorem dX11_cellOf_0 : decode cX11_cellOf 0 = .ok (.bipush 16, 2) := by decide +kernel
theorem dX11_cellOf_2 : decode cX11_cellOf 2 = .ok (.iload_n 0, 1) := by decide +kernel
theorem dX11_cellOf_3 : decode cX11_cellOf 3 = .ok (.imul, 1) := by decide +kernel
theorem dX11_cellOf_4 : decode cX11_cellOf 4 = .ok (.iconst 4, 1) := by decide +kernel
theorem dX11_cellOf_5 : decode cX11_cellOf 5 = .ok (.iload_n 2, 1) := by decide +kernel
theorem dX11_cellOf_6 : decode cX11_cellOf 6 = .ok (.imul, 1) := by decide +kernel
theorem dX11_cellOf_7 : decode cX11_cellOf 7 = .ok (.iadd, 1) := by decide +kernel
theorem dX11_cellOf_8 : decode cX11_cellOf 8 = .ok (.iload_n 1, 1) := by decide +kernel
theorem dX11_cellOf_9 : decode cX11_cellOf 9 = .ok (.iadd, 1) := by decide +kernel
theorem dX11_cellOf_10 : decode cX11_cellOf 10 = .ok (.ireturn, 1) := by decide +kernel
theorem dX11_isCell_0 : decode cX11_isCell 0 = .ok (.iload_n 2, 1) := by decide +kernel
theorem dX11_isCell_1 : decode cX11_isCell 1 = .ok (.iconst 0, 1) := by decide +kernel
theorem dX11_isCell_2 : decode cX11_isCell 2 = .ok (.aload_n 0, 1) := by decide +kernel
theorem dX11_isCell_3 : decode cX11_isCell 3 = .ok (.getfield 31, 3) := by decide +kernel
theorem dX11_isCell_6 : decode cX11_isCell 6 = .ok (.iload_n 1, 1) := by decide +kernel
theorem dX11_isCell_7 : decode cX11_isCell 7 = .ok (.aaload, 1) := by decide +kernel
theorem dX11_isCell_8 : decode cX11_isCell 8 = .ok (.iconst 0, 1) := by decide +kernel
theorem dX11_isCell_9 : decode cX11_isCell 9 = .ok (.iaload, 1) := by decide +kernel
theorem dX11_isCell_10 : decode cX11_isCell 10 = .ok (.iconst 1, 1) := by decide +kernel
theorem dX11_isCell_11 : decode cX11_isCell 11 = .ok (.isub, 1) := by decide +kernel
theorem dX11_isCell_12 : decode cX11_isCell 12 = .ok (.invokestatic 119, 3) := by decide +kernel
theorem dX11_isCell_15 : decode cX11_isCell 15 = .ok (.ifCond .eq 25, 3) := by decide +kernel
theorem dX11_isCell_18 : decode cX11_isCell 18 = .ok (.iload_n 3, 1) := by decide +kernel
theorem dX11_isCell_19 : decode cX11_isCell 19 = .ok (.iconst 0, 1) := by decide +kernel
theorem dX11_isCell_20 : decode cX11_isCell 20 = .ok (.aload_n 0, 1) := by decide +kernel
theorem dX11_isCell_21 : decode cX11_isCell 21 = .ok (.getfield 31, 3) := by decide +kernel
theorem dX11_isCell_24 : decode cX11_isCell 24 = .ok (.iload_n 1, 1) := by decide +kernel
theorem dX11_isCell_25 : decode cX11_isCell 25 = .ok (.aaload, 1) := by decide +kernel
theorem dX11_isCell_26 : decode cX11_isCell 26 = .ok (.iconst 1, 1) := by decide +kernel
theorem dX11_isCell_27 : decode cX11_isCell 27 = .ok (.iaload, 1) := by decide +kernel
theorem dX11_isCell_28 : decode cX11_isCell 28 = .ok (.iconst 1, 1) := by decide +kernel
theorem dX11_isCell_29 : decode cX11_isCell 29 = .ok (.isub, 1) := by decide +kernel
theorem dX11_isCell_30 : decode cX11_isCell 30 = .ok (.invokestatic 119, 3) := by decide +kernel
theorem dX11_isCell_33 : decode cX11_isCell 33 = .ok (.ifCond .eq 7, 3) := by decide +kernel
theorem dX11_isCell_36 : decode cX11_isCell 36 = .ok (.iconst 1, 1) := by decide +kernel
theorem dX11_isCell_37 : decode cX11_isCell 37 = .ok (.goto 4, 3) := by decide +kernel
theorem dX11_isCell_40 : decode cX11_isCell 40 = .ok (.iconst 0, 1) := by decide +kernel
theorem dX11_isCell_41 : decode cX11_isCell 41 = .ok (.ireturn, 1) := by decide +kernel
theorem dX11_isOf_0 : decode cX11_isOf 0 = .ok (.aload_n 0, 1) := by decide +kernel
theorem dX11_isOf_1 : decode cX11_isOf 1 = .ok (.iload_n 1, 1) := by decide +kernel
theorem dX11_isOf_2 : decode cX11_isOf 2 = .ok (.iload_n 2, 1) := by decide +kernel
theorem dX11_isOf_3 : decode cX11_isOf 3 = .ok (.iconst 4, 1) := by decide +kernel
theorem dX11_isOf_4 : decode cX11_isOf 4 = .ok (.irem, 1) := by decide +kernel
theorem dX11_isOf_5 : decode cX11_isOf 5 = .ok (.iload_n 2, 1) := by decide +kernel
theorem dX11_isOf_6 : decode cX11_isOf 6 = .ok (.iconst 4, 1) := by decide +kernel
theorem dX11_isOf_7 : decode cX11_isOf 7 = .ok (.idiv, 1) := by decide +kernel
theorem dX11_isOf_8 : decode cX11_isOf 8 = .ok (.invokevirtual 237, 3) := by decide +kernel
theorem dX11_isOf_11 : decode cX11_isOf 11 = .ok (.ireturn, 1) := by decide +kernel
theorem dX11_filmOf_0 : decode cX11_filmOf 0 = .ok (.aload_n 0, 1) := by decide +kernel
theorem dX11_filmOf_1 : decode cX11_filmOf 1 = .ok (.sipush 2400, 3) := by decide +kernel
theorem dX11_filmOf_4 : decode cX11_filmOf 4 = .ok (.iload_n 1, 1) := by decide +kernel
theorem dX11_filmOf_5 : decode cX11_filmOf 5 = .ok (.iadd, 1) := by decide +kernel
theorem dX11_filmOf_6 : decode cX11_filmOf 6 = .ok (.iaload, 1) := by decide +kernel
theorem dX11_filmOf_7 : decode cX11_filmOf 7 = .ok (.iconst 1, 1) := by decide +kernel
theorem dX11_filmOf_8 : decode cX11_filmOf 8 = .ok (.isub, 1) := by decide +kernel
theorem dX11_filmOf_9 : decode cX11_filmOf 9 = .ok (.iload_n 2, 1) := by decide +kernel
theorem dX11_filmOf_10 : decode cX11_filmOf 10 = .ok (.isub, 1) := by decide +kernel
theorem dX11_filmOf_11 : decode cX11_filmOf 11 = .ok (.istore_n 3, 1) := by decide +kernel
theorem dX11_filmOf_12 : decode cX11_filmOf 12 = .ok (.iload_n 2, 1) := by decide +kernel
theorem dX11_filmOf_13 : decode cX11_filmOf 13 = .ok (.ifCond .lt 7, 3) := by decide +kernel
theorem dX11_filmOf_16 : decode cX11_filmOf 16 = .ok (.iload_n 3, 1) := by decide +kernel
theorem dX11_filmOf_17 : decode cX11_filmOf 17 = .ok (.ifCond .ge 7, 3) := by decide +kernel
theorem dX11_filmOf_20 : decode cX11_filmOf 20 = .ok (.iconst 0, 1) := by decide +kernel
theorem dX11_filmOf_21 : decode cX11_filmOf 21 = .ok (.goto 13, 3) := by decide +kernel
theorem dX11_filmOf_24 : decode cX11_filmOf 24 = .ok (.aload_n 0, 1) := by decide +kernel
theorem dX11_filmOf_25 : decode cX11_filmOf 25 = .ok (.iconst 0, 1) := by decide +kernel
theorem dX11_filmOf_26 : decode cX11_filmOf 26 = .ok (.bipush 30, 2) := by decide +kernel
theorem dX11_filmOf_28 : decode cX11_filmOf 28 = .ok (.iload_n 1, 1) := by decide +kernel
theorem dX11_filmOf_29 : decode cX11_filmOf 29 = .ok (.imul, 1) := by decide +kernel
theorem dX11_filmOf_30 : decode cX11_filmOf 30 = .ok (.iadd, 1) := by decide +kernel
theorem dX11_filmOf_31 : decode cX11_filmOf 31 = .ok (.iload_n 3, 1) := by decide +kernel
theorem dX11_filmOf_32 : decode cX11_filmOf 32 = .ok (.iadd, 1) := by decide +kernel
theorem dX11_filmOf_33 : decode cX11_filmOf 33 = .ok (.iaload, 1) := by decide +kernel
theorem dX11_filmOf_34 : decode cX11_filmOf 34 = .ok (.ireturn, 1) := by decide +kernel
theorem dX11_onCell_0 : decode cX11_onCell 0 = .ok (.iconst 0, 1) := by decide +kernel
theorem dX11_onCell_1 : decode cX11_onCell 1 = .ok (.istore_n 3, 1) := by decide +kernel
theorem dX11_onCell_2 : decode cX11_onCell 2 = .ok (.iconst 0, 1) := by decide +kernel
theorem dX11_onCell_3 : decode cX11_onCell 3 = .ok (.istore 4, 2) := by decide +kernel
theorem dX11_onCell_5 : decode cX11_onCell 5 = .ok (.iload 4, 2) := by decide +kernel
theorem dX11_onCell_7 : decode cX11_onCell 7 = .ok (.aload_n 0, 1) := by decide +kernel
theorem dX11_onCell_8 : decode cX11_onCell 8 = .ok (.sipush 2400, 3) := by decide +kernel
theorem dX11_onCell_11 : decode cX11_onCell 11 = .ok (.iload_n 1, 1) := by decide +kernel
theorem dX11_onCell_12 : decode cX11_onCell 12 = .ok (.iadd, 1) := by decide +kernel
theorem dX11_onCell_13 : decode cX11_onCell 13 = .ok (.iaload, 1) := by decide +kernel
theorem dX11_onCell_14 : decode cX11_onCell 14 = .ok (.if_icmp .ge 32, 3) := by decide +kernel
theorem dX11_onCell_17 : decode cX11_onCell 17 = .ok (.iload_n 3, 1) := by decide +kernel
theorem dX11_onCell_18 : decode cX11_onCell 18 = .ok (.aload_n 0, 1) := by decide +kernel
theorem dX11_onCell_19 : decode cX11_onCell 19 = .ok (.iconst 0, 1) := by decide +kernel
theorem dX11_onCell_20 : decode cX11_onCell 20 = .ok (.bipush 30, 2) := by decide +kernel
theorem dX11_onCell_22 : decode cX11_onCell 22 = .ok (.iload_n 1, 1) := by decide +kernel
theorem dX11_onCell_23 : decode cX11_onCell 23 = .ok (.imul, 1) := by decide +kernel
theorem dX11_onCell_24 : decode cX11_onCell 24 = .ok (.iadd, 1) := by decide +kernel
theorem dX11_onCell_25 : decode cX11_onCell 25 = .ok (.iload 4, 2) := by decide +kernel
theorem dX11_onCell_27 : decode cX11_onCell 27 = .ok (.iadd, 1) := by decide +kernel
theorem dX11_onCell_28 : decode cX11_onCell 28 = .ok (.iaload, 1) := by decide +kernel
theorem dX11_onCell_29 : decode cX11_onCell 29 = .ok (.iload_n 2, 1) := by decide +kernel
theorem dX11_onCell_30 : decode cX11_onCell 30 = .ok (.if_icmp .ne 7, 3) := by decide +kernel
theorem dX11_onCell_33 : decode cX11_onCell 33 = .ok (.iconst 1, 1) := by decide +kernel
theorem dX11_onCell_34 : decode cX11_onCell 34 = .ok (.goto 4, 3) := by decide +kernel
theorem dX11_onCell_37 : decode cX11_onCell 37 = .ok (.iconst 0, 1) := by decide +kernel
theorem dX11_onCell_38 : decode cX11_onCell 38 = .ok (.iadd, 1) := by decide +kernel
theorem dX11_onCell_39 : decode cX11_onCell 39 = .ok (.istore_n 3, 1) := by decide +kernel
theorem dX11_onCell_40 : decode cX11_onCell 40 = .ok (.iinc 4 1, 3) := by decide +kernel
theorem dX11_onCell_43 : decode cX11_onCell 43 = .ok (.goto (-38), 3) := by decide +kernel
theorem dX11_onCell_46 : decode cX11_onCell 46 = .ok (.iload_n 3, 1) := by decide +kernel
theorem dX11_onCell_47 : decode cX11_onCell 47 = .ok (.ireturn, 1) := by decide +kernel
theorem dX11_onRag_0 : decode cX11_onRag 0 = .ok (.iconst 0, 1) := by decide +kernel
theorem dX11_onRag_1 : decode cX11_onRag 1 = .ok (.istore_n 1, 1) := by decide +kernel
theorem dX11_onRag_2 : decode cX11_onRag 2 = .ok (.iconst 0, 1) := by decide +kernel
theorem dX11_onRag_3 : decode cX11_onRag 3 = .ok (.istore_n 2, 1) := by decide +kernel
theorem dX11_onRag_4 : decode cX11_onRag 4 = .ok (.iload_n 2, 1) := by decide +kernel
theorem dX11_onRag_5 : decode cX11_onRag 5 = .ok (.sipush 200, 3) := by decide +kernel
theorem dX11_onRag_8 : decode cX11_onRag 8 = .ok (.if_icmp .gt 19, 3) := by decide +kernel
theorem dX11_onRag_11 : decode cX11_onRag 11 = .ok (.iload_n 1, 1) := by decide +kernel
theorem dX11_onRag_12 : decode cX11_onRag 12 = .ok (.aload_n 0, 1) := by decide +kernel
theorem dX11_onRag_13 : decode cX11_onRag 13 = .ok (.sipush 2480, 3) := by decide +kernel
theorem dX11_onRag_16 : decode cX11_onRag 16 = .ok (.iload_n 2, 1) := by decide +kernel
theorem dX11_onRag_17 : decode cX11_onRag 17 = .ok (.iadd, 1) := by decide +kernel
theorem dX11_onRag_18 : decode cX11_onRag 18 = .ok (.iaload, 1) := by decide +kernel
theorem dX11_onRag_19 : decode cX11_onRag 19 = .ok (.iadd, 1) := by decide +kernel
theorem dX11_onRag_20 : decode cX11_onRag 20 = .ok (.istore_n 1, 1) := by decide +kernel
theorem dX11_onRag_21 : decode cX11_onRag 21 = .ok (.iinc 2 1, 3) := by decide +kernel
theorem dX11_onRag_24 : decode cX11_onRag 24 = .ok (.goto (-20), 3) := by decide +kernel
theorem dX11_onRag_27 : decode cX11_onRag 27 = .ok (.iload_n 1, 1) := by decide +kernel
theorem dX11_onRag_28 : decode cX11_onRag 28 = .ok (.ireturn, 1) := by decide +kernel
theorem dX11_onPane_0 : decode cX11_onPane 0 = .ok (.iconst 0, 1) := by decide +kernel
theorem dX11_onPane_1 : decode cX11_onPane 1 = .ok (.istore_n 2, 1) := by decide +kernel
theorem dX11_onPane_2 : decode cX11_onPane 2 = .ok (.iconst 0, 1) := by decide +kernel
theorem dX11_onPane_3 : decode cX11_onPane 3 = .ok (.istore_n 3, 1) := by decide +kernel
theorem dX11_onPane_4 : decode cX11_onPane 4 = .ok (.iload_n 3, 1) := by decide +kernel
theorem dX11_onPane_5 : decode cX11_onPane 5 = .ok (.bipush 16, 2) := by decide +kernel
theorem dX11_onPane_7 : decode cX11_onPane 7 = .ok (.if_icmp .ge 24, 3) := by decide +kernel
theorem dX11_onPane_10 : decode cX11_onPane 10 = .ok (.iload_n 2, 1) := by decide +kernel
theorem dX11_onPane_11 : decode cX11_onPane 11 = .ok (.aload_n 0, 1) := by decide +kernel
theorem dX11_onPane_12 : decode cX11_onPane 12 = .ok (.sipush 2400, 3) := by decide +kernel
theorem dX11_onPane_15 : decode cX11_onPane 15 = .ok (.bipush 16, 2) := by decide +kernel
theorem dX11_onPane_17 : decode cX11_onPane 17 = .ok (.iload_n 1, 1) := by decide +kernel
theorem dX11_onPane_18 : decode cX11_onPane 18 = .ok (.imul, 1) := by decide +kernel
theorem dX11_onPane_19 : decode cX11_onPane 19 = .ok (.iadd, 1) := by decide +kernel
theorem dX11_onPane_20 : decode cX11_onPane 20 = .ok (.iload_n 3, 1) := by decide +kernel
theorem dX11_onPane_21 : decode cX11_onPane 21 = .ok (.iadd, 1) := by decide +kernel
theorem dX11_onPane_22 : decode cX11_onPane 22 = .ok (.iaload, 1) := by decide +kernel
theorem dX11_onPane_23 : decode cX11_onPane 23 = .ok (.iadd, 1) := by decide +kernel
theorem dX11_onPane_24 : decode cX11_onPane 24 = .ok (.istore_n 2, 1) := by decide +kernel
theorem dX11_onPane_25 : decode cX11_onPane 25 = .ok (.iinc 3 1, 3) := by decide +kernel
theorem dX11_onPane_28 : decode cX11_onPane 28 = .ok (.goto (-24), 3) := by decide +kernel
theorem dX11_onPane_31 : decode cX11_onPane 31 = .ok (.iload_n 2, 1) := by decide +kernel
theorem dX11_onPane_32 : decode cX11_onPane 32 = .ok (.ireturn, 1) := by decide +kernel
theorem dX11_onAll_0 : decode cX11_onAll 0 = .ok (.iconst 0, 1) := by decide +kernel
theorem dX11_onAll_1 : decode cX11_onAll 1 = .ok (.istore_n 2, 1) := by decide +kernel
theorem dX11_onAll_2 : decode cX11_onAll 2 = .ok (.iconst 0, 1) := by decide +kernel
theorem dX11_onAll_3 : decode cX11_onAll 3 = .ok (.istore_n 3, 1) := by decide +kernel
theorem dX11_onAll_4 : decode cX11_onAll 4 = .ok (.iload_n 3, 1) := by decide +kernel
theorem dX11_onAll_5 : decode cX11_onAll 5 = .ok (.aload_n 0, 1) := by decide +kernel
theorem dX11_onAll_6 : decode cX11_onAll 6 = .ok (.getfield 23, 3) := by decide +kernel
theorem dX11_onAll_9 : decode cX11_onAll 9 = .ok (.iconst 0, 1) := by decide +kernel
theorem dX11_onAll_10 : decode cX11_onAll 10 = .ok (.iaload, 1) := by decide +kernel
theorem dX11_onAll_11 : decode cX11_onAll 11 = .ok (.if_icmp .ge 17, 3) := by decide +kernel
theorem dX11_onAll_14 : decode cX11_onAll 14 = .ok (.iload_n 2, 1) := by decide +kernel
theorem dX11_onAll_15 : decode cX11_onAll 15 = .ok (.aload_n 1, 1) := by decide +kernel
theorem dX11_onAll_16 : decode cX11_onAll 16 = .ok (.iload_n 3, 1) := by decide +kernel
theorem dX11_onAll_17 : decode cX11_onAll 17 = .ok (.invokestatic 240, 3) := by decide +kernel
theorem dX11_onAll_20 : decode cX11_onAll 20 = .ok (.iadd, 1) := by decide +kernel
theorem dX11_onAll_21 : decode cX11_onAll 21 = .ok (.istore_n 2, 1) := by decide +kernel
theorem dX11_onAll_22 : decode cX11_onAll 22 = .ok (.iinc 3 1, 3) := by decide +kernel
theorem dX11_onAll_25 : decode cX11_onAll 25 = .ok (.goto (-21), 3) := by decide +kernel
theorem dX11_onAll_28 : decode cX11_onAll 28 = .ok (.iload_n 2, 1) := by decide +kernel
theorem dX11_onAll_29 : decode cX11_onAll 29 = .ok (.ireturn, 1) := by decide +kernel
theorem dX11_takesOff_0 : decode cX11_takesOff 0 = .ok (.iload_n 2, 1) := by decide +kernel
theorem dX11_takesOff_1 : decode cX11_takesOff 1 = .ok (.aload_n 0, 1) := by decide +kernel
theorem dX11_takesOff_2 : decode cX11_takesOff 2 = .ok (.sipush 2400, 3) := by decide +kernel
theorem dX11_takesOff_5 : decode cX11_takesOff 5 = .ok (.iload_n 1, 1) := by decide +kernel
theorem dX11_takesOff_6 : decode cX11_takesOff 6 = .ok (.iadd, 1) := by decide +kernel
theorem dX11_takesOff_7 : decode cX11_takesOff 7 = .ok (.iaload, 1) := by decide +kernel
theorem dX11_takesOff_8 : decode cX11_takesOff 8 = .ok (.invokestatic 218, 3) := by decide +kernel
theorem dX11_takesOff_11 : decode cX11_takesOff 11 = .ok (.istore 4, 2) := by decide +kernel
theorem dX11_takesOff_13 : decode cX11_takesOff 13 = .ok (.iconst 0, 1) := by decide +kernel
theorem dX11_takesOff_14 : decode cX11_takesOff 14 = .ok (.istore 5, 2) := by decide +kernel
theorem dX11_takesOff_16 : decode cX11_takesOff 16 = .ok (.iload 5, 2) := by decide +kernel
theorem dX11_takesOff_18 : decode cX11_takesOff 18 = .ok (.iload 4, 2) := by decide +kernel
theorem dX11_takesOff_20 : decode cX11_takesOff 20 = .ok (.if_icmp .ge 40, 3) := by decide +kernel
theorem dX11_takesOff_23 : decode cX11_takesOff 23 = .ok (.iload_n 3, 1) := by decide +kernel
theorem dX11_takesOff_24 : decode cX11_takesOff 24 = .ok (.ifCond .eq 19, 3) := by decide +kernel
theorem dX11_takesOff_27 : decode cX11_takesOff 27 = .ok (.aload_n 0, 1) := by decide +kernel
theorem dX11_takesOff_28 : decode cX11_takesOff 28 = .ok (.sipush 2480, 3) := by decide +kernel
theorem dX11_takesOff_31 : decode cX11_takesOff 31 = .ok (.aload_n 0, 1) := by decide +kernel
theorem dX11_takesOff_32 : decode cX11_takesOff 32 = .ok (.iload_n 1, 1) := by decide +kernel
theorem dX11_takesOff_33 : decode cX11_takesOff 33 = .ok (.iconst 0, 1) := by decide +kernel
theorem dX11_takesOff_34 : decode cX11_takesOff 34 = .ok (.invokestatic 244, 3) := by decide +kernel
theorem dX11_takesOff_37 : decode cX11_takesOff 37 = .ok (.iadd, 1) := by decide +kernel
theorem dX11_takesOff_38 : decode cX11_takesOff 38 = .ok (.dup2, 1) := by decide +kernel
theorem dX11_takesOff_39 : decode cX11_takesOff 39 = .ok (.iaload, 1) := by decide +kernel
theorem dX11_takesOff_40 : decode cX11_takesOff 40 = .ok (.iconst 1, 1) := by decide +kernel
theorem dX11_takesOff_41 : decode cX11_takesOff 41 = .ok (.iadd, 1) := by decide +kernel
theorem dX11_takesOff_42 : decode cX11_takesOff 42 = .ok (.iastore, 1) := by decide +kernel
theorem dX11_takesOff_43 : decode cX11_takesOff 43 = .ok (.aload_n 0, 1) := by decide +kernel
theorem dX11_takesOff_44 : decode cX11_takesOff 44 = .ok (.sipush 2400, 3) := by decide +kernel
theorem dX11_takesOff_47 : decode cX11_takesOff 47 = .ok (.iload_n 1, 1) := by decide +kernel
theorem dX11_takesOff_48 : decode cX11_takesOff 48 = .ok (.iadd, 1) := by decide +kernel
theorem dX11_takesOff_49 : decode cX11_takesOff 49 = .ok (.dup2, 1) := by decide +kernel
theorem dX11_takesOff_50 : decode cX11_takesOff 50 = .ok (.iaload, 1) := by decide +kernel
theorem dX11_takesOff_51 : decode cX11_takesOff 51 = .ok (.iconst 1, 1) := by decide +kernel
theorem dX11_takesOff_52 : decode cX11_takesOff 52 = .ok (.isub, 1) := by decide +kernel
theorem dX11_takesOff_53 : decode cX11_takesOff 53 = .ok (.iastore, 1) := by decide +kernel
theorem dX11_takesOff_54 : decode cX11_takesOff 54 = .ok (.iinc 5 1, 3) := by decide +kernel
theorem dX11_takesOff_57 : decode cX11_takesOff 57 = .ok (.goto (-41), 3) := by decide +kernel
theorem dX11_takesOff_60 : decode cX11_takesOff 60 = .ok (.iload 4, 2) := by decide +kernel
theorem dX11_takesOff_62 : decode cX11_takesOff 62 = .ok (.ireturn, 1) := by decide +kernel
theorem dX11_wipes_0 : decode cX11_wipes 0 = .ok (.iconst 0, 1) := by decide +kernel
theorem dX11_wipes_1 : decode cX11_wipes 1 = .ok (.istore 7, 2) := by decide +kernel
theorem dX11_wipes_3 : decode cX11_wipes 3 = .ok (.iconst 0, 1) := by decide +kernel
theorem dX11_wipes_4 : decode cX11_wipes 4 = .ok (.istore 8, 2) := by decide +kernel
theorem dX11_wipes_6 : decode cX11_wipes 6 = .ok (.iload 8, 2) := by decide +kernel
theorem dX11_wipes_8 : decode cX11_wipes 8 = .ok (.bipush 16, 2) := by decide +kernel
theorem dX11_wipes_10 : decode cX11_wipes 10 = .ok (.if_icmp .ge 65, 3) := by decide +kernel
theorem dX11_wipes_13 : decode cX11_wipes 13 = .ok (.iload 7, 2) := by decide +kernel
theorem dX11_wipes_15 : decode cX11_wipes 15 = .ok (.aload_n 0, 1) := by decide +kernel
theorem dX11_wipes_16 : decode cX11_wipes 16 = .ok (.iload_n 2, 1) := by decide +kernel
theorem dX11_wipes_17 : decode cX11_wipes 17 = .ok (.iload 8, 2) := by decide +kernel
theorem dX11_wipes_19 : decode cX11_wipes 19 = .ok (.invokevirtual 248, 3) := by decide +kernel
theorem dX11_wipes_22 : decode cX11_wipes 22 = .ok (.ifCond .eq 43, 3) := by decide +kernel
theorem dX11_wipes_25 : decode cX11_wipes 25 = .ok (.iload 8, 2) := by decide +kernel
theorem dX11_wipes_27 : decode cX11_wipes 27 = .ok (.iconst 4, 1) := by decide +kernel
theorem dX11_wipes_28 : decode cX11_wipes 28 = .ok (.irem, 1) := by decide +kernel
theorem dX11_wipes_29 : decode cX11_wipes 29 = .ok (.iload_n 3, 1) := by decide +kernel
theorem dX11_wipes_30 : decode cX11_wipes 30 = .ok (.invokestatic 252, 3) := by decide +kernel
theorem dX11_wipes_33 : decode cX11_wipes 33 = .ok (.iload 8, 2) := by decide +kernel
theorem dX11_wipes_35 : decode cX11_wipes 35 = .ok (.iconst 4, 1) := by decide +kernel
theorem dX11_wipes_36 : decode cX11_wipes 36 = .ok (.idiv, 1) := by decide +kernel
theorem dX11_wipes_37 : decode cX11_wipes 37 = .ok (.iload 4, 2) := by decide +kernel
theorem dX11_wipes_39 : decode cX11_wipes 39 = .ok (.invokestatic 252, 3) := by decide +kernel
theorem dX11_wipes_42 : decode cX11_wipes 42 = .ok (.iadd, 1) := by decide +kernel
theorem dX11_wipes_43 : decode cX11_wipes 43 = .ok (.iload 5, 2) := by decide +kernel
theorem dX11_wipes_45 : decode cX11_wipes 45 = .ok (.if_icmp .gt 20, 3) := by decide +kernel
theorem dX11_wipes_48 : decode cX11_wipes 48 = .ok (.aload_n 1, 1) := by decide +kernel
theorem dX11_wipes_49 : decode cX11_wipes 49 = .ok (.bipush 16, 2) := by decide +kernel
theorem dX11_wipes_51 : decode cX11_wipes 51 = .ok (.iload_n 2, 1) := by decide +kernel
theorem dX11_wipes_52 : decode cX11_wipes 52 = .ok (.imul, 1) := by decide +kernel
theorem dX11_wipes_53 : decode cX11_wipes 53 = .ok (.iload 8, 2) := by decide +kernel
theorem dX11_wipes_55 : decode cX11_wipes 55 = .ok (.iadd, 1) := by decide +kernel
theorem dX11_wipes_56 : decode cX11_wipes 56 = .ok (.iload 6, 2) := by decide +kernel
theorem dX11_wipes_58 : decode cX11_wipes 58 = .ok (.iconst 1, 1) := by decide +kernel
theorem dX11_wipes_59 : decode cX11_wipes 59 = .ok (.invokestatic 255, 3) := by decide +kernel
theorem dX11_wipes_62 : decode cX11_wipes 62 = .ok (.goto 4, 3) := by decide +kernel
theorem dX11_wipes_65 : decode cX11_wipes 65 = .ok (.iconst 0, 1) := by decide +kernel
theorem dX11_wipes_66 : decode cX11_wipes 66 = .ok (.iadd, 1) := by decide +kernel
theorem dX11_wipes_67 : decode cX11_wipes 67 = .ok (.istore 7, 2) := by decide +kernel
theorem dX11_wipes_69 : decode cX11_wipes 69 = .ok (.iinc 8 1, 3) := by decide +kernel
theorem dX11_wipes_72 : decode cX11_wipes 72 = .ok (.goto (-66), 3) := by decide +kernel
theorem dX11_wipes_75 : decode cX11_wipes 75 = .ok (.iload 7, 2) := by decide +kernel
theorem dX11_wipes_77 : decode cX11_wipes 77 = .ok (.ireturn, 1) := by decide +kernel
theorem dX11_rainOn_0 : decode cX11_rainOn 0 = .ok (.iconst 0, 1) := by decide +kernel
theorem dX11_rainOn_1 : decode cX11_rainOn 1 = .ok (.istore_n 2, 1) := by decide +kernel
theorem dX11_rainOn_2 : decode cX11_rainOn 2 = .ok (.iconst 0, 1) := by decide +kernel
theorem dX11_rainOn_3 : decode cX11_rainOn 3 = .ok (.istore_n 3, 1) := by decide +kernel
theorem dX11_rainOn_4 : decode cX11_rainOn 4 = .ok (.iload_n 3, 1) := by decide +kernel
theorem dX11_rainOn_5 : decode cX11_rainOn 5 = .ok (.aload_n 0, 1) := by decide +kernel
theorem dX11_rainOn_6 : decode cX11_rainOn 6 = .ok (.getfield 23, 3) := by decide +kernel
theorem dX11_rainOn_9 : decode cX11_rainOn 9 = .ok (.iconst 2, 1) := by decide +kernel
theorem dX11_rainOn_10 : decode cX11_rainOn 10 = .ok (.iaload, 1) := by decide +kernel
theorem dX11_rainOn_11 : decode cX11_rainOn 11 = .ok (.if_icmp .ge 36, 3) := by decide +kernel
theorem dX11_rainOn_14 : decode cX11_rainOn 14 = .ok (.iload_n 2, 1) := by decide +kernel
theorem dX11_rainOn_15 : decode cX11_rainOn 15 = .ok (.aload_n 0, 1) := by decide +kernel
theorem dX11_rainOn_16 : decode cX11_rainOn 16 = .ok (.getfield 37, 3) := by decide +kernel
theorem dX11_rainOn_19 : decode cX11_rainOn 19 = .ok (.iload_n 3, 1) := by decide +kernel
theorem dX11_rainOn_20 : decode cX11_rainOn 20 = .ok (.aaload, 1) := by decide +kernel
theorem dX11_rainOn_21 : decode cX11_rainOn 21 = .ok (.iconst 0, 1) := by decide +kernel
theorem dX11_rainOn_22 : decode cX11_rainOn 22 = .ok (.iaload, 1) := by decide +kernel
theorem dX11_rainOn_23 : decode cX11_rainOn 23 = .ok (.iload_n 1, 1) := by decide +kernel
theorem dX11_rainOn_24 : decode cX11_rainOn 24 = .ok (.if_icmp .ne 14, 3) := by decide +kernel
theorem dX11_rainOn_27 : decode cX11_rainOn 27 = .ok (.aload_n 0, 1) := by decide +kernel
theorem dX11_rainOn_28 : decode cX11_rainOn 28 = .ok (.getfield 37, 3) := by decide +kernel
theorem dX11_rainOn_31 : decode cX11_rainOn 31 = .ok (.iload_n 3, 1) := by decide +kernel
theorem dX11_rainOn_32 : decode cX11_rainOn 32 = .ok (.aaload, 1) := by decide +kernel
theorem dX11_rainOn_33 : decode cX11_rainOn 33 = .ok (.iconst 1, 1) := by decide +kernel
theorem dX11_rainOn_34 : decode cX11_rainOn 34 = .ok (.iaload, 1) := by decide +kernel
theorem dX11_rainOn_35 : decode cX11_rainOn 35 = .ok (.goto 4, 3) := by decide +kernel
theorem dX11_rainOn_38 : decode cX11_rainOn 38 = .ok (.iconst 0, 1) := by decide +kernel
theorem dX11_rainOn_39 : decode cX11_rainOn 39 = .ok (.iadd, 1) := by decide +kernel
theorem dX11_rainOn_40 : decode cX11_rainOn 40 = .ok (.istore_n 2, 1) := by decide +kernel
theorem dX11_rainOn_41 : decode cX11_rainOn 41 = .ok (.iinc 3 1, 3) := by decide +kernel
theorem dX11_rainOn_44 : decode cX11_rainOn 44 = .ok (.goto (-40), 3) := by decide +kernel
theorem dX11_rainOn_47 : decode cX11_rainOn 47 = .ok (.iload_n 2, 1) := by decide +kernel
theorem dX11_rainOn_48 : decode cX11_rainOn 48 = .ok (.ireturn, 1) := by decide +kernel
theorem dX11_isSettling_0 : decode cX11_isSettling 0 = .ok (.aload_n 1, 1) := by decide +kernel
theorem dX11_isSettling_1 : decode cX11_isSettling 1 = .ok (.sipush 2681, 3) := by decide +kernel
theorem dX11_isSettling_4 : decode cX11_isSettling 4 = .ok (.iaload, 1) := by decide +kernel
theorem dX11_isSettling_5 : decode cX11_isSettling 5 = .ok (.iload_n 2, 1) := by decide +kernel
theorem dX11_isSettling_6 : decode cX11_isSettling 6 = .ok (.invokestatic 259, 3) := by decide +kernel
theorem dX11_isSettling_9 : decode cX11_isSettling 9 = .ok (.ifCond .eq 5, 3) := by decide +kernel
theorem dX11_isSettling_12 : decode cX11_isSettling 12 = .ok (.iconst 0, 1) := by decide +kernel
theorem dX11_isSettling_13 : decode cX11_isSettling 13 = .ok (.ireturn, 1) := by decide +kernel
theorem dX11_isSettling_14 : decode cX11_isSettling 14 = .ok (.aload_n 0, 1) := by decide +kernel
theorem dX11_isSettling_15 : decode cX11_isSettling 15 = .ok (.getfield 61, 3) := by decide +kernel
theorem dX11_isSettling_18 : decode cX11_isSettling 18 = .ok (.iconst 0, 1) := by decide +kernel
theorem dX11_isSettling_19 : decode cX11_isSettling 19 = .ok (.iload 4, 2) := by decide +kernel
theorem dX11_isSettling_21 : decode cX11_isSettling 21 = .ok (.iastore, 1) := by decide +kernel
theorem dX11_isSettling_22 : decode cX11_isSettling 22 = .ok (.aload_n 0, 1) := by decide +kernel
theorem dX11_isSettling_23 : decode cX11_isSettling 23 = .ok (.getfield 61, 3) := by decide +kernel
theorem dX11_isSettling_26 : decode cX11_isSettling 26 = .ok (.iconst 1, 1) := by decide +kernel
theorem dX11_isSettling_27 : decode cX11_isSettling 27 = .ok (.iload_n 3, 1) := by decide +kernel
theorem dX11_isSettling_28 : decode cX11_isSettling 28 = .ok (.iconst 4, 1) := by decide +kernel
theorem dX11_isSettling_29 : decode cX11_isSettling 29 = .ok (.irem, 1) := by decide +kernel
theorem dX11_isSettling_30 : decode cX11_isSettling 30 = .ok (.iastore, 1) := by decide +kernel
theorem dX11_isSettling_31 : decode cX11_isSettling 31 = .ok (.aload_n 0, 1) := by decide +kernel
theorem dX11_isSettling_32 : decode cX11_isSettling 32 = .ok (.getfield 61, 3) := by decide +kernel
theorem dX11_isSettling_35 : decode cX11_isSettling 35 = .ok (.iconst 2, 1) := by decide +kernel
theorem dX11_isSettling_36 : decode cX11_isSettling 36 = .ok (.iload_n 3, 1) := by decide +kernel
theorem dX11_isSettling_37 : decode cX11_isSettling 37 = .ok (.iconst 4, 1) := by decide +kernel
theorem dX11_isSettling_38 : decode cX11_isSettling 38 = .ok (.idiv, 1) := by decide +kernel
theorem dX11_isSettling_39 : decode cX11_isSettling 39 = .ok (.iastore, 1) := by decide +kernel
theorem dX11_isSettling_40 : decode cX11_isSettling 40 = .ok (.aload_n 0, 1) := by decide +kernel
theorem dX11_isSettling_41 : decode cX11_isSettling 41 = .ok (.getfield 61, 3) := by decide +kernel
theorem dX11_isSettling_44 : decode cX11_isSettling 44 = .ok (.iconst 3, 1) := by decide +kernel
theorem dX11_isSettling_45 : decode cX11_isSettling 45 = .ok (.aload_n 0, 1) := by decide +kernel
theorem dX11_isSettling_46 : decode cX11_isSettling 46 = .ok (.getfield 31, 3) := by decide +kernel
theorem dX11_isSettling_49 : decode cX11_isSettling 49 = .ok (.iload_n 2, 1) := by decide +kernel
theorem dX11_isSettling_50 : decode cX11_isSettling 50 = .ok (.aaload, 1) := by decide +kernel
theorem dX11_isSettling_51 : decode cX11_isSettling 51 = .ok (.iconst 3, 1) := by decide +kernel
theorem dX11_isSettling_52 : decode cX11_isSettling 52 = .ok (.iaload, 1) := by decide +kernel
theorem dX11_isSettling_53 : decode cX11_isSettling 53 = .ok (.iastore, 1) := by decide +kernel
theorem dX11_isSettling_54 : decode cX11_isSettling 54 = .ok (.aload_n 0, 1) := by decide +kernel
theorem dX11_isSettling_55 : decode cX11_isSettling 55 = .ok (.getfield 61, 3) := by decide +kernel
theorem dX11_isSettling_58 : decode cX11_isSettling 58 = .ok (.iconst 4, 1) := by decide +kernel
theorem dX11_isSettling_59 : decode cX11_isSettling 59 = .ok (.iload_n 2, 1) := by decide +kernel
theorem dX11_isSettling_60 : decode cX11_isSettling 60 = .ok (.iastore, 1) := by decide +kernel
theorem dX11_isSettling_61 : decode cX11_isSettling 61 = .ok (.aload_n 0, 1) := by decide +kernel
theorem dX11_isSettling_62 : decode cX11_isSettling 62 = .ok (.getfield 61, 3) := by decide +kernel
theorem dX11_isSettling_65 : decode cX11_isSettling 65 = .ok (.iconst 5, 1) := by decide +kernel
theorem dX11_isSettling_66 : decode cX11_isSettling 66 = .ok (.aload_n 1, 1) := by decide +kernel
theorem dX11_isSettling_67 : decode cX11_isSettling 67 = .ok (.sipush 2400, 3) := by decide +kernel
theorem dX11_isSettling_70 : decode cX11_isSettling 70 = .ok (.bipush 16, 2) := by decide +kernel
theorem dX11_isSettling_72 : decode cX11_isSettling 72 = .ok (.iload_n 2, 1) := by decide +kernel
theorem dX11_isSettling_73 : decode cX11_isSettling 73 = .ok (.imul, 1) := by decide +kernel
theorem dX11_isSettling_74 : decode cX11_isSettling 74 = .ok (.iadd, 1) := by decide +kernel
theorem dX11_isSettling_75 : decode cX11_isSettling 75 = .ok (.iload_n 3, 1) := by decide +kernel
theorem dX11_isSettling_76 : decode cX11_isSettling 76 = .ok (.iadd, 1) := by decide +kernel
theorem dX11_isSettling_77 : decode cX11_isSettling 77 = .ok (.iaload, 1) := by decide +kernel
theorem dX11_isSettling_78 : decode cX11_isSettling 78 = .ok (.iastore, 1) := by decide +kernel
theorem dX11_isSettling_79 : decode cX11_isSettling 79 = .ok (.aload_n 0, 1) := by decide +kernel
theorem dX11_isSettling_80 : decode cX11_isSettling 80 = .ok (.getfield 61, 3) := by decide +kernel
theorem dX11_isSettling_83 : decode cX11_isSettling 83 = .ok (.bipush 6, 2) := by decide +kernel
theorem dX11_isSettling_85 : decode cX11_isSettling 85 = .ok (.aload_n 1, 1) := by decide +kernel
theorem dX11_isSettling_86 : decode cX11_isSettling 86 = .ok (.bipush 16, 2) := by decide +kernel
theorem dX11_isSettling_88 : decode cX11_isSettling 88 = .ok (.iload_n 2, 1) := by decide +kernel
theorem dX11_isSettling_89 : decode cX11_isSettling 89 = .ok (.imul, 1) := by decide +kernel
theorem dX11_isSettling_90 : decode cX11_isSettling 90 = .ok (.iload_n 3, 1) := by decide +kernel
theorem dX11_isSettling_91 : decode cX11_isSettling 91 = .ok (.iadd, 1) := by decide +kernel
theorem dX11_isSettling_92 : decode cX11_isSettling 92 = .ok (.iconst 0, 1) := by decide +kernel
theorem dX11_isSettling_93 : decode cX11_isSettling 93 = .ok (.invokestatic 244, 3) := by decide +kernel
theorem dX11_isSettling_96 : decode cX11_isSettling 96 = .ok (.iastore, 1) := by decide +kernel
theorem dX11_isSettling_97 : decode cX11_isSettling 97 = .ok (.aload_n 0, 1) := by decide +kernel
theorem dX11_isSettling_98 : decode cX11_isSettling 98 = .ok (.getfield 61, 3) := by decide +kernel
theorem dX11_isSettling_101 : decode cX11_isSettling 101 = .ok (.bipush 7, 2) := by decide +kernel
theorem dX11_isSettling_103 : decode cX11_isSettling 103 = .ok (.iload 5, 2) := by decide +kernel
theorem dX11_isSettling_105 : decode cX11_isSettling 105 = .ok (.iastore, 1) := by decide +kernel
theorem dX11_isSettling_106 : decode cX11_isSettling 106 = .ok (.aload_n 0, 1) := by decide +kernel
theorem dX11_isSettling_107 : decode cX11_isSettling 107 = .ok (.invokevirtual 262, 3) := by decide +kernel
theorem dX11_isSettling_110 : decode cX11_isSettling 110 = .ok (.ifCond .le 7, 3) := by decide +kernel
theorem dX11_isSettling_113 : decode cX11_isSettling 113 = .ok (.iconst 1, 1) := by decide +kernel
theorem dX11_isSettling_114 : decode cX11_isSettling 114 = .ok (.goto 4, 3) := by decide +kernel
theorem dX11_isSettling_117 : decode cX11_isSettling 117 = .ok (.iconst 0, 1) := by decide +kernel
theorem dX11_isSettling_118 : decode cX11_isSettling 118 = .ok (.ireturn, 1) := by decide +kernel
theorem dX11_filmsOver_0 : decode cX11_filmsOver 0 = .ok (.iconst 0, 1) := by decide +kernel
theorem dX11_filmsOver_1 : decode cX11_filmsOver 1 = .ok (.bipush 30, 2) := by decide +kernel
theorem dX11_filmsOver_3 : decode cX11_filmsOver 3 = .ok (.iload_n 2, 1) := by decide +kernel
theorem dX11_filmsOver_4 : decode cX11_filmsOver 4 = .ok (.imul, 1) := by decide +kernel
theorem dX11_filmsOver_5 : decode cX11_filmsOver 5 = .ok (.iadd, 1) := by decide +kernel
theorem dX11_filmsOver_6 : decode cX11_filmsOver 6 = .ok (.istore 4, 2) := by decide +kernel
theorem dX11_filmsOver_8 : decode cX11_filmsOver 8 = .ok (.aload_n 1, 1) := by decide +kernel
theorem dX11_filmsOver_9 : decode cX11_filmsOver 9 = .ok (.sipush 2400, 3) := by decide +kernel
theorem dX11_filmsOver_12 : decode cX11_filmsOver 12 = .ok (.iload_n 2, 1) := by decide +kernel
theorem dX11_filmsOver_13 : decode cX11_filmsOver 13 = .ok (.iadd, 1) := by decide +kernel
theorem dX11_filmsOver_14 : decode cX11_filmsOver 14 = .ok (.iaload, 1) := by decide +kernel
theorem dX11_filmsOver_15 : decode cX11_filmsOver 15 = .ok (.aload_n 0, 1) := by decide +kernel
theorem dX11_filmsOver_16 : decode cX11_filmsOver 16 = .ok (.getfield 23, 3) := by decide +kernel
theorem dX11_filmsOver_19 : decode cX11_filmsOver 19 = .ok (.iconst 5, 1) := by decide +kernel
theorem dX11_filmsOver_20 : decode cX11_filmsOver 20 = .ok (.iaload, 1) := by decide +kernel
theorem dX11_filmsOver_21 : decode cX11_filmsOver 21 = .ok (.if_icmp .ne 52, 3) := by decide +kernel
theorem dX11_filmsOver_24 : decode cX11_filmsOver 24 = .ok (.iconst 0, 1) := by decide +kernel
theorem dX11_filmsOver_25 : decode cX11_filmsOver 25 = .ok (.istore 5, 2) := by decide +kernel
theorem dX11_filmsOver_27 : decode cX11_filmsOver 27 = .ok (.iload 5, 2) := by decide +kernel
theorem dX11_filmsOver_29 : decode cX11_filmsOver 29 = .ok (.iconst 1, 1) := by decide +kernel
theorem dX11_filmsOver_30 : decode cX11_filmsOver 30 = .ok (.iadd, 1) := by decide +kernel
theorem dX11_filmsOver_31 : decode cX11_filmsOver 31 = .ok (.aload_n 0, 1) := by decide +kernel
theorem dX11_filmsOver_32 : decode cX11_filmsOver 32 = .ok (.getfield 23, 3) := by decide +kernel
theorem dX11_filmsOver_35 : decode cX11_filmsOver 35 = .ok (.iconst 5, 1) := by decide +kernel
theorem dX11_filmsOver_36 : decode cX11_filmsOver 36 = .ok (.iaload, 1) := by decide +kernel
theorem dX11_filmsOver_37 : decode cX11_filmsOver 37 = .ok (.if_icmp .ge 25, 3) := by decide +kernel
theorem dX11_filmsOver_40 : decode cX11_filmsOver 40 = .ok (.aload_n 1, 1) := by decide +kernel
theorem dX11_filmsOver_41 : decode cX11_filmsOver 41 = .ok (.iload 4, 2) := by decide +kernel
theorem dX11_filmsOver_43 : decode cX11_filmsOver 43 = .ok (.iload 5, 2) := by decide +kernel
theorem dX11_filmsOver_45 : decode cX11_filmsOver 45 = .ok (.iadd, 1) := by decide +kernel
theorem dX11_filmsOver_46 : decode cX11_filmsOver 46 = .ok (.aload_n 1, 1) := by decide +kernel
theorem dX11_filmsOver_47 : decode cX11_filmsOver 47 = .ok (.iload 4, 2) := by decide +kernel
theorem dX11_filmsOver_49 : decode cX11_filmsOver 49 = .ok (.iload 5, 2) := by decide +kernel
theorem dX11_filmsOver_51 : decode cX11_filmsOver 51 = .ok (.iadd, 1) := by decide +kernel
theorem dX11_filmsOver_52 : decode cX11_filmsOver 52 = .ok (.iconst 1, 1) := by decide +kernel
theorem dX11_filmsOver_53 : decode cX11_filmsOver 53 = .ok (.iadd, 1) := by decide +kernel
theorem dX11_filmsOver_54 : decode cX11_filmsOver 54 = .ok (.iaload, 1) := by decide +kernel
theorem dX11_filmsOver_55 : decode cX11_filmsOver 55 = .ok (.iastore, 1) := by decide +kernel
theorem dX11_filmsOver_56 : decode cX11_filmsOver 56 = .ok (.iinc 5 1, 3) := by decide +kernel
theorem dX11_filmsOver_59 : decode cX11_filmsOver 59 = .ok (.goto (-32), 3) := by decide +kernel
theorem dX11_filmsOver_62 : decode cX11_filmsOver 62 = .ok (.aload_n 1, 1) := by decide +kernel
theorem dX11_filmsOver_63 : decode cX11_filmsOver 63 = .ok (.sipush 2400, 3) := by decide +kernel
theorem dX11_filmsOver_66 : decode cX11_filmsOver 66 = .ok (.iload_n 2, 1) := by decide +kernel
theorem dX11_filmsOver_67 : decode cX11_filmsOver 67 = .ok (.iadd, 1) := by decide +kernel
theorem dX11_filmsOver_68 : decode cX11_filmsOver 68 = .ok (.dup2, 1) := by decide +kernel
theorem dX11_filmsOver_69 : decode cX11_filmsOver 69 = .ok (.iaload, 1) := by decide +kernel
theorem dX11_filmsOver_70 : decode cX11_filmsOver 70 = .ok (.iconst 1, 1) := by decide +kernel
theorem dX11_filmsOver_71 : decode cX11_filmsOver 71 = .ok (.isub, 1) := by decide +kernel
theorem dX11_filmsOver_72 : decode cX11_filmsOver 72 = .ok (.iastore, 1) := by decide +kernel
theorem dX11_filmsOver_73 : decode cX11_filmsOver 73 = .ok (.aload_n 1, 1) := by decide +kernel
theorem dX11_filmsOver_74 : decode cX11_filmsOver 74 = .ok (.iload 4, 2) := by decide +kernel
theorem dX11_filmsOver_76 : decode cX11_filmsOver 76 = .ok (.aload_n 1, 1) := by decide +kernel
theorem dX11_filmsOver_77 : decode cX11_filmsOver 77 = .ok (.sipush 2400, 3) := by decide +kernel
theorem dX11_filmsOver_80 : decode cX11_filmsOver 80 = .ok (.iload_n 2, 1) := by decide +kernel
theorem dX11_filmsOver_81 : decode cX11_filmsOver 81 = .ok (.iadd, 1) := by decide +kernel
theorem dX11_filmsOver_82 : decode cX11_filmsOver 82 = .ok (.iaload, 1) := by decide +kernel
theorem dX11_filmsOver_83 : decode cX11_filmsOver 83 = .ok (.iadd, 1) := by decide +kernel
theorem dX11_filmsOver_84 : decode cX11_filmsOver 84 = .ok (.iload_n 3, 1) := by decide +kernel
theorem dX11_filmsOver_85 : decode cX11_filmsOver 85 = .ok (.iastore, 1) := by decide +kernel
theorem dX11_filmsOver_86 : decode cX11_filmsOver 86 = .ok (.aload_n 1, 1) := by decide +kernel
theorem dX11_filmsOver_87 : decode cX11_filmsOver 87 = .ok (.sipush 2400, 3) := by decide +kernel
theorem dX11_filmsOver_90 : decode cX11_filmsOver 90 = .ok (.iload_n 2, 1) := by decide +kernel
theorem dX11_filmsOver_91 : decode cX11_filmsOver 91 = .ok (.iadd, 1) := by decide +kernel
theorem dX11_filmsOver_92 : decode cX11_filmsOver 92 = .ok (.dup2, 1) := by decide +kernel
theorem dX11_filmsOver_93 : decode cX11_filmsOver 93 = .ok (.iaload, 1) := by decide +kernel
theorem dX11_filmsOver_94 : decode cX11_filmsOver 94 = .ok (.iconst 1, 1) := by decide +kernel
theorem dX11_filmsOver_95 : decode cX11_filmsOver 95 = .ok (.iadd, 1) := by decide +kernel
theorem dX11_filmsOver_96 : decode cX11_filmsOver 96 = .ok (.iastore, 1) := by decide +kernel
theorem dX11_filmsOver_97 : decode cX11_filmsOver 97 = .ok (.return_, 1) := by decide +kernel
theorem dX11_dayEnds_0 : decode cX11_dayEnds 0 = .ok (.aload_n 1, 1) := by decide +kernel
theorem dX11_dayEnds_1 : decode cX11_dayEnds 1 = .ok (.sipush 2684, 3) := by decide +kernel
theorem dX11_dayEnds_4 : decode cX11_dayEnds 4 = .ok (.iaload, 1) := by decide +kernel
theorem dX11_dayEnds_5 : decode cX11_dayEnds 5 = .ok (.sipush 200, 3) := by decide +kernel
theorem dX11_dayEnds_8 : decode cX11_dayEnds 8 = .ok (.if_icmp .ne 5, 3) := by decide +kernel
theorem dX11_dayEnds_11 : decode cX11_dayEnds 11 = .ok (.iconst 0, 1) := by decide +kernel
theorem dX11_dayEnds_12 : decode cX11_dayEnds 12 = .ok (.ireturn, 1) := by decide +kernel
theorem dX11_dayEnds_13 : decode cX11_dayEnds 13 = .ok (.iconst 0, 1) := by decide +kernel
theorem dX11_dayEnds_14 : decode cX11_dayEnds 14 = .ok (.istore_n 2, 1) := by decide +kernel
theorem dX11_dayEnds_15 : decode cX11_dayEnds 15 = .ok (.iload_n 2, 1) := by decide +kernel
theorem dX11_dayEnds_16 : decode cX11_dayEnds 16 = .ok (.aload_n 0, 1) := by decide +kernel
theorem dX11_dayEnds_17 : decode cX11_dayEnds 17 = .ok (.getfield 23, 3) := by decide +kernel
theorem dX11_dayEnds_20 : decode cX11_dayEnds 20 = .ok (.iconst 1, 1) := by decide +kernel
theorem dX11_dayEnds_21 : decode cX11_dayEnds 21 = .ok (.iaload, 1) := by decide +kernel
theorem dX11_dayEnds_22 : decode cX11_dayEnds 22 = .ok (.if_icmp .ge 49, 3) := by decide +kernel
theorem dX11_dayEnds_25 : decode cX11_dayEnds 25 = .ok (.aload_n 0, 1) := by decide +kernel
theorem dX11_dayEnds_26 : decode cX11_dayEnds 26 = .ok (.getfield 43, 3) := by decide +kernel
theorem dX11_dayEnds_29 : decode cX11_dayEnds 29 = .ok (.iload_n 2, 1) := by decide +kernel
theorem dX11_dayEnds_30 : decode cX11_dayEnds 30 = .ok (.aaload, 1) := by decide +kernel
theorem dX11_dayEnds_31 : decode cX11_dayEnds 31 = .ok (.iconst 4, 1) := by decide +kernel
theorem dX11_dayEnds_32 : decode cX11_dayEnds 32 = .ok (.iaload, 1) := by decide +kernel
theorem dX11_dayEnds_33 : decode cX11_dayEnds 33 = .ok (.aload_n 1, 1) := by decide +kernel
theorem dX11_dayEnds_34 : decode cX11_dayEnds 34 = .ok (.sipush 2684, 3) := by decide +kernel
theorem dX11_dayEnds_37 : decode cX11_dayEnds 37 = .ok (.iaload, 1) := by decide +kernel
theorem dX11_dayEnds_38 : decode cX11_dayEnds 38 = .ok (.if_icmp .ne 27, 3) := by decide +kernel
theorem dX11_dayEnds_41 : decode cX11_dayEnds 41 = .ok (.aload_n 1, 1) := by decide +kernel
theorem dX11_dayEnds_42 : decode cX11_dayEnds 42 = .ok (.sipush 2682, 3) := by decide +kernel
theorem dX11_dayEnds_45 : decode cX11_dayEnds 45 = .ok (.dup2, 1) := by decide +kernel
theorem dX11_dayEnds_46 : decode cX11_dayEnds 46 = .ok (.iaload, 1) := by decide +kernel
theorem dX11_dayEnds_47 : decode cX11_dayEnds 47 = .ok (.aload_n 0, 1) := by decide +kernel
theorem dX11_dayEnds_48 : decode cX11_dayEnds 48 = .ok (.aload_n 1, 1) := by decide +kernel
theorem dX11_dayEnds_49 : decode cX11_dayEnds 49 = .ok (.iload_n 2, 1) := by decide +kernel
theorem dX11_dayEnds_50 : decode cX11_dayEnds 50 = .ok (.invokevirtual 265, 3) := by decide +kernel
theorem dX11_dayEnds_53 : decode cX11_dayEnds 53 = .ok (.ifCond .eq 9, 3) := by decide +kernel
theorem dX11_dayEnds_56 : decode cX11_dayEnds 56 = .ok (.iconst 1, 1) := by decide +kernel
theorem dX11_dayEnds_57 : decode cX11_dayEnds 57 = .ok (.iload_n 2, 1) := by decide +kernel
theorem dX11_dayEnds_58 : decode cX11_dayEnds 58 = .ok (.ishl, 1) := by decide +kernel
theorem dX11_dayEnds_59 : decode cX11_dayEnds 59 = .ok (.goto 4, 3) := by decide +kernel
theorem dX11_dayEnds_62 : decode cX11_dayEnds 62 = .ok (.iconst 0, 1) := by decide +kernel
theorem dX11_dayEnds_63 : decode cX11_dayEnds 63 = .ok (.ior, 1) := by decide +kernel
theorem dX11_dayEnds_64 : decode cX11_dayEnds 64 = .ok (.iastore, 1) := by decide +kernel
theorem dX11_dayEnds_65 : decode cX11_dayEnds 65 = .ok (.iinc 2 1, 3) := by decide +kernel
theorem dX11_dayEnds_68 : decode cX11_dayEnds 68 = .ok (.goto (-53), 3) := by decide +kernel
theorem dX11_dayEnds_71 : decode cX11_dayEnds 71 = .ok (.aload_n 1, 1) := by decide +kernel
theorem dX11_dayEnds_72 : decode cX11_dayEnds 72 = .ok (.sipush 2684, 3) := by decide +kernel
theorem dX11_dayEnds_75 : decode cX11_dayEnds 75 = .ok (.dup2, 1) := by decide +kernel
theorem dX11_dayEnds_76 : decode cX11_dayEnds 76 = .ok (.iaload, 1) := by decide +kernel
theorem dX11_dayEnds_77 : decode cX11_dayEnds 77 = .ok (.iconst 1, 1) := by decide +kernel
theorem dX11_dayEnds_78 : decode cX11_dayEnds 78 = .ok (.iadd, 1) := by decide +kernel
theorem dX11_dayEnds_79 : decode cX11_dayEnds 79 = .ok (.iastore, 1) := by decide +kernel
theorem dX11_dayEnds_80 : decode cX11_dayEnds 80 = .ok (.aload_n 0, 1) := by decide +kernel
theorem dX11_dayEnds_81 : decode cX11_dayEnds 81 = .ok (.aload_n 1, 1) := by decide +kernel
theorem dX11_dayEnds_82 : decode cX11_dayEnds 82 = .ok (.sipush 2684, 3) := by decide +kernel
theorem dX11_dayEnds_85 : decode cX11_dayEnds 85 = .ok (.iaload, 1) := by decide +kernel
theorem dX11_dayEnds_86 : decode cX11_dayEnds 86 = .ok (.invokevirtual 269, 3) := by decide +kernel
theorem dX11_dayEnds_89 : decode cX11_dayEnds 89 = .ok (.istore_n 2, 1) := by decide +kernel
theorem dX11_dayEnds_90 : decode cX11_dayEnds 90 = .ok (.iconst 0, 1) := by decide +kernel
theorem dX11_dayEnds_91 : decode cX11_dayEnds 91 = .ok (.istore_n 3, 1) := by decide +kernel
theorem dX11_dayEnds_92 : decode cX11_dayEnds 92 = .ok (.iload_n 3, 1) := by decide +kernel
theorem dX11_dayEnds_93 : decode cX11_dayEnds 93 = .ok (.bipush 16, 2) := by decide +kernel
theorem dX11_dayEnds_95 : decode cX11_dayEnds 95 = .ok (.aload_n 0, 1) := by decide +kernel
theorem dX11_dayEnds_96 : decode cX11_dayEnds 96 = .ok (.getfield 23, 3) := by decide +kernel
theorem dX11_dayEnds_99 : decode cX11_dayEnds 99 = .ok (.iconst 0, 1) := by decide +kernel
theorem dX11_dayEnds_100 : decode cX11_dayEnds 100 = .ok (.iaload, 1) := by decide +kernel
theorem dX11_dayEnds_101 : decode cX11_dayEnds 101 = .ok (.imul, 1) := by decide +kernel
theorem dX11_dayEnds_102 : decode cX11_dayEnds 102 = .ok (.if_icmp .ge 24, 3) := by decide +kernel
theorem dX11_dayEnds_105 : decode cX11_dayEnds 105 = .ok (.aload_n 1, 1) := by decide +kernel
theorem dX11_dayEnds_106 : decode cX11_dayEnds 106 = .ok (.sipush 2683, 3) := by decide +kernel
theorem dX11_dayEnds_109 : decode cX11_dayEnds 109 = .ok (.dup2, 1) := by decide +kernel
theorem dX11_dayEnds_110 : decode cX11_dayEnds 110 = .ok (.iaload, 1) := by decide +kernel
theorem dX11_dayEnds_111 : decode cX11_dayEnds 111 = .ok (.aload_n 1, 1) := by decide +kernel
theorem dX11_dayEnds_112 : decode cX11_dayEnds 112 = .ok (.iload_n 3, 1) := by decide +kernel
theorem dX11_dayEnds_113 : decode cX11_dayEnds 113 = .ok (.iload_n 2, 1) := by decide +kernel
theorem dX11_dayEnds_114 : decode cX11_dayEnds 114 = .ok (.iconst 0, 1) := by decide +kernel
theorem dX11_dayEnds_115 : decode cX11_dayEnds 115 = .ok (.invokestatic 255, 3) := by decide +kernel
theorem dX11_dayEnds_118 : decode cX11_dayEnds 118 = .ok (.iadd, 1) := by decide +kernel
theorem dX11_dayEnds_119 : decode cX11_dayEnds 119 = .ok (.iastore, 1) := by decide +kernel
theorem dX11_dayEnds_120 : decode cX11_dayEnds 120 = .ok (.iinc 3 1, 3) := by decide +kernel
theorem dX11_dayEnds_123 : decode cX11_dayEnds 123 = .ok (.goto (-31), 3) := by decide +kernel
theorem dX11_dayEnds_126 : decode cX11_dayEnds 126 = .ok (.iconst 0, 1) := by decide +kernel
theorem dX11_dayEnds_127 : decode cX11_dayEnds 127 = .ok (.istore_n 3, 1) := by decide +kernel
theorem dX11_dayEnds_128 : decode cX11_dayEnds 128 = .ok (.iload_n 3, 1) := by decide +kernel
theorem dX11_dayEnds_129 : decode cX11_dayEnds 129 = .ok (.bipush 16, 2) := by decide +kernel
theorem dX11_dayEnds_131 : decode cX11_dayEnds 131 = .ok (.aload_n 0, 1) := by decide +kernel
theorem dX11_dayEnds_132 : decode cX11_dayEnds 132 = .ok (.getfield 23, 3) := by decide +kernel
theorem dX11_dayEnds_135 : decode cX11_dayEnds 135 = .ok (.iconst 0, 1) := by decide +kernel
theorem dX11_dayEnds_136 : decode cX11_dayEnds 136 = .ok (.iaload, 1) := by decide +kernel
theorem dX11_dayEnds_137 : decode cX11_dayEnds 137 = .ok (.imul, 1) := by decide +kernel
theorem dX11_dayEnds_138 : decode cX11_dayEnds 138 = .ok (.if_icmp .ge 57, 3) := by decide +kernel
theorem dX11_dayEnds_141 : decode cX11_dayEnds 141 = .ok (.aload_n 0, 1) := by decide +kernel
theorem dX11_dayEnds_142 : decode cX11_dayEnds 142 = .ok (.iload_n 3, 1) := by decide +kernel
theorem dX11_dayEnds_143 : decode cX11_dayEnds 143 = .ok (.bipush 16, 2) := by decide +kernel
theorem dX11_dayEnds_145 : decode cX11_dayEnds 145 = .ok (.idiv, 1) := by decide +kernel
theorem dX11_dayEnds_146 : decode cX11_dayEnds 146 = .ok (.iload_n 3, 1) := by decide +kernel
theorem dX11_dayEnds_147 : decode cX11_dayEnds 147 = .ok (.bipush 16, 2) := by decide +kernel
theorem dX11_dayEnds_149 : decode cX11_dayEnds 149 = .ok (.irem, 1) := by decide +kernel
theorem dX11_dayEnds_150 : decode cX11_dayEnds 150 = .ok (.invokevirtual 248, 3) := by decide +kernel
theorem dX11_dayEnds_153 : decode cX11_dayEnds 153 = .ok (.ifCond .eq 36, 3) := by decide +kernel
theorem dX11_dayEnds_156 : decode cX11_dayEnds 156 = .ok (.aload_n 0, 1) := by decide +kernel
theorem dX11_dayEnds_157 : decode cX11_dayEnds 157 = .ok (.aload_n 1, 1) := by decide +kernel
theorem dX11_dayEnds_158 : decode cX11_dayEnds 158 = .ok (.iload_n 3, 1) := by decide +kernel
theorem dX11_dayEnds_159 : decode cX11_dayEnds 159 = .ok (.bipush 16, 2) := by decide +kernel
theorem dX11_dayEnds_161 : decode cX11_dayEnds 161 = .ok (.idiv, 1) := by decide +kernel
theorem dX11_dayEnds_162 : decode cX11_dayEnds 162 = .ok (.iload_n 3, 1) := by decide +kernel
theorem dX11_dayEnds_163 : decode cX11_dayEnds 163 = .ok (.bipush 16, 2) := by decide +kernel
theorem dX11_dayEnds_165 : decode cX11_dayEnds 165 = .ok (.irem, 1) := by decide +kernel
theorem dX11_dayEnds_166 : decode cX11_dayEnds 166 = .ok (.aload_n 1, 1) := by decide +kernel
theorem dX11_dayEnds_167 : decode cX11_dayEnds 167 = .ok (.sipush 2684, 3) := by decide +kernel
theorem dX11_dayEnds_170 : decode cX11_dayEnds 170 = .ok (.iaload, 1) := by decide +kernel
theorem dX11_dayEnds_171 : decode cX11_dayEnds 171 = .ok (.iload_n 2, 1) := by decide +kernel
theorem dX11_dayEnds_172 : decode cX11_dayEnds 172 = .ok (.invokevirtual 272, 3) := by decide +kernel
theorem dX11_dayEnds_175 : decode cX11_dayEnds 175 = .ok (.ifCond .eq 14, 3) := by decide +kernel
theorem dX11_dayEnds_178 : decode cX11_dayEnds 178 = .ok (.aload_n 0, 1) := by decide +kernel
theorem dX11_dayEnds_179 : decode cX11_dayEnds 179 = .ok (.aload_n 1, 1) := by decide +kernel
theorem dX11_dayEnds_180 : decode cX11_dayEnds 180 = .ok (.iload_n 3, 1) := by decide +kernel
theorem dX11_dayEnds_181 : decode cX11_dayEnds 181 = .ok (.aload_n 1, 1) := by decide +kernel
theorem dX11_dayEnds_182 : decode cX11_dayEnds 182 = .ok (.sipush 2684, 3) := by decide +kernel
theorem dX11_dayEnds_185 : decode cX11_dayEnds 185 = .ok (.iaload, 1) := by decide +kernel
theorem dX11_dayEnds_186 : decode cX11_dayEnds 186 = .ok (.invokevirtual 276, 3) := by decide +kernel
theorem dX11_dayEnds_189 : decode cX11_dayEnds 189 = .ok (.iinc 3 1, 3) := by decide +kernel
theorem dX11_dayEnds_192 : decode cX11_dayEnds 192 = .ok (.goto (-64), 3) := by decide +kernel
theorem dX11_dayEnds_195 : decode cX11_dayEnds 195 = .ok (.iconst 1, 1) := by decide +kernel
theorem dX11_dayEnds_196 : decode cX11_dayEnds 196 = .ok (.ireturn, 1) := by decide +kernel
theorem dX11_breaks_0 : decode cX11_breaks 0 = .ok (.aload_n 0, 1) := by decide +kernel
theorem dX11_breaks_1 : decode cX11_breaks 1 = .ok (.sipush 2681, 3) := by decide +kernel
theorem dX11_breaks_4 : decode cX11_breaks 4 = .ok (.iaload, 1) := by decide +kernel
theorem dX11_breaks_5 : decode cX11_breaks 5 = .ok (.iload_n 1, 1) := by decide +kernel
theorem dX11_breaks_6 : decode cX11_breaks 6 = .ok (.invokestatic 259, 3) := by decide +kernel
theorem dX11_breaks_9 : decode cX11_breaks 9 = .ok (.ifCond .eq 5, 3) := by decide +kernel
theorem dX11_breaks_12 : decode cX11_breaks 12 = .ok (.iconst 0, 1) := by decide +kernel
theorem dX11_breaks_13 : decode cX11_breaks 13 = .ok (.ireturn, 1) := by decide +kernel
theorem dX11_breaks_14 : decode cX11_breaks 14 = .ok (.aload_n 0, 1) := by decide +kernel
theorem dX11_breaks_15 : decode cX11_breaks 15 = .ok (.sipush 2681, 3) := by decide +kernel
theorem dX11_breaks_18 : decode cX11_breaks 18 = .ok (.dup2, 1) := by decide +kernel
theorem dX11_breaks_19 : decode cX11_breaks 19 = .ok (.iaload, 1) := by decide +kernel
theorem dX11_breaks_20 : decode cX11_breaks 20 = .ok (.iconst 1, 1) := by decide +kernel
theorem dX11_breaks_21 : decode cX11_breaks 21 = .ok (.iload_n 1, 1) := by decide +kernel
theorem dX11_breaks_22 : decode cX11_breaks 22 = .ok (.ishl, 1) := by decide +kernel
theorem dX11_breaks_23 : decode cX11_breaks 23 = .ok (.ior, 1) := by decide +kernel
theorem dX11_breaks_24 : decode cX11_breaks 24 = .ok (.iastore, 1) := by decide +kernel
theorem dX11_breaks_25 : decode cX11_breaks 25 = .ok (.iconst 0, 1) := by decide +kernel
theorem dX11_breaks_26 : decode cX11_breaks 26 = .ok (.istore_n 2, 1) := by decide +kernel
theorem dX11_breaks_27 : decode cX11_breaks 27 = .ok (.iload_n 2, 1) := by decide +kernel
theorem dX11_breaks_28 : decode cX11_breaks 28 = .ok (.bipush 16, 2) := by decide +kernel
theorem dX11_breaks_30 : decode cX11_breaks 30 = .ok (.if_icmp .ge 22, 3) := by decide +kernel
theorem dX11_breaks_33 : decode cX11_breaks 33 = .ok (.aload_n 0, 1) := by decide +kernel
theorem dX11_breaks_34 : decode cX11_breaks 34 = .ok (.sipush 2400, 3) := by decide +kernel
theorem dX11_breaks_37 : decode cX11_breaks 37 = .ok (.bipush 16, 2) := by decide +kernel
theorem dX11_breaks_39 : decode cX11_breaks 39 = .ok (.iload_n 1, 1) := by decide +kernel
theorem dX11_breaks_40 : decode cX11_breaks 40 = .ok (.imul, 1) := by decide +kernel
theorem dX11_breaks_41 : decode cX11_breaks 41 = .ok (.iadd, 1) := by decide +kernel
theorem dX11_breaks_42 : decode cX11_breaks 42 = .ok (.iload_n 2, 1) := by decide +kernel
theorem dX11_breaks_43 : decode cX11_breaks 43 = .ok (.iadd, 1) := by decide +kernel
theorem dX11_breaks_44 : decode cX11_breaks 44 = .ok (.iconst 0, 1) := by decide +kernel
theorem dX11_breaks_45 : decode cX11_breaks 45 = .ok (.iastore, 1) := by decide +kernel
theorem dX11_breaks_46 : decode cX11_breaks 46 = .ok (.iinc 2 1, 3) := by decide +kernel
theorem dX11_breaks_49 : decode cX11_breaks 49 = .ok (.goto (-22), 3) := by decide +kernel
theorem dX11_breaks_52 : decode cX11_breaks 52 = .ok (.iconst 1, 1) := by decide +kernel
theorem dX11_breaks_53 : decode cX11_breaks 53 = .ok (.ireturn, 1) := by decide +kernel
theorem dX11_does_0 : decode cX11_does 0 = .ok (.aload_n 2, 1) := by decide +kernel
theorem dX11_does_1 : decode cX11_does 1 = .ok (.iconst 0, 1) := by decide +kernel
theorem dX11_does_2 : decode cX11_does 2 = .ok (.iaload, 1) := by decide +kernel
theorem dX11_does_3 : decode cX11_does 3 = .ok (.tableswitch 160 0 4 #[33, 57, 84, 113, 119], 33) := by decide +kernel
theorem dX11_does_36 : decode cX11_does 36 = .ok (.aload_n 0, 1) := by decide +kernel
theorem dX11_does_37 : decode cX11_does 37 = .ok (.aload_n 1, 1) := by decide +kernel
theorem dX11_does_38 : decode cX11_does 38 = .ok (.aload_n 2, 1) := by decide +kernel
theorem dX11_does_39 : decode cX11_does 39 = .ok (.iconst 1, 1) := by decide +kernel
theorem dX11_does_40 : decode cX11_does 40 = .ok (.iaload, 1) := by decide +kernel
theorem dX11_does_41 : decode cX11_does 41 = .ok (.iconst 0, 1) := by decide +kernel
theorem dX11_does_42 : decode cX11_does 42 = .ok (.iconst 0, 1) := by decide +kernel
theorem dX11_does_43 : decode cX11_does 43 = .ok (.bipush 8, 2) := by decide +kernel
theorem dX11_does_45 : decode cX11_does 45 = .ok (.aload_n 2, 1) := by decide +kernel
theorem dX11_does_46 : decode cX11_does 46 = .ok (.iconst 5, 1) := by decide +kernel
theorem dX11_does_47 : decode cX11_does 47 = .ok (.iaload, 1) := by decide +kernel
theorem dX11_does_48 : decode cX11_does 48 = .ok (.invokevirtual 280, 3) := by decide +kernel
theorem dX11_does_51 : decode cX11_does 51 = .ok (.ifCond .le 7, 3) := by decide +kernel
theorem dX11_does_54 : decode cX11_does 54 = .ok (.iconst 1, 1) := by decide +kernel
theorem dX11_does_55 : decode cX11_does 55 = .ok (.goto 4, 3) := by decide +kernel
theorem dX11_does_58 : decode cX11_does 58 = .ok (.iconst 0, 1) := by decide +kernel
theorem dX11_does_59 : decode cX11_does 59 = .ok (.ireturn, 1) := by decide +kernel
theorem dX11_does_60 : decode cX11_does 60 = .ok (.aload_n 0, 1) := by decide +kernel
theorem dX11_does_61 : decode cX11_does 61 = .ok (.aload_n 1, 1) := by decide +kernel
theorem dX11_does_62 : decode cX11_does 62 = .ok (.aload_n 2, 1) := by decide +kernel
theorem dX11_does_63 : decode cX11_does 63 = .ok (.iconst 1, 1) := by decide +kernel
theorem dX11_does_64 : decode cX11_does 64 = .ok (.iaload, 1) := by decide +kernel
theorem dX11_does_65 : decode cX11_does 65 = .ok (.aload_n 2, 1) := by decide +kernel
theorem dX11_does_66 : decode cX11_does 66 = .ok (.iconst 2, 1) := by decide +kernel
theorem dX11_does_67 : decode cX11_does 67 = .ok (.iaload, 1) := by decide +kernel
theorem dX11_does_68 : decode cX11_does 68 = .ok (.aload_n 2, 1) := by decide +kernel
theorem dX11_does_69 : decode cX11_does 69 = .ok (.iconst 3, 1) := by decide +kernel
theorem dX11_does_70 : decode cX11_does 70 = .ok (.iaload, 1) := by decide +kernel
theorem dX11_does_71 : decode cX11_does 71 = .ok (.iconst 0, 1) := by decide +kernel
theorem dX11_does_72 : decode cX11_does 72 = .ok (.aload_n 2, 1) := by decide +kernel
theorem dX11_does_73 : decode cX11_does 73 = .ok (.iconst 5, 1) := by decide +kernel
theorem dX11_does_74 : decode cX11_does 74 = .ok (.iaload, 1) := by decide +kernel
theorem dX11_does_75 : decode cX11_does 75 = .ok (.invokevirtual 280, 3) := by decide +kernel
theorem dX11_does_78 : decode cX11_does 78 = .ok (.ifCond .le 7, 3) := by decide +kernel
theorem dX11_does_81 : decode cX11_does 81 = .ok (.iconst 1, 1) := by decide +kernel
theorem dX11_does_82 : decode cX11_does 82 = .ok (.goto 4, 3) := by decide +kernel
theorem dX11_does_85 : decode cX11_does 85 = .ok (.iconst 0, 1) := by decide +kernel
theorem dX11_does_86 : decode cX11_does 86 = .ok (.ireturn, 1) := by decide +kernel
theorem dX11_does_87 : decode cX11_does 87 = .ok (.aload_n 0, 1) := by decide +kernel
theorem dX11_does_88 : decode cX11_does 88 = .ok (.aload_n 1, 1) := by decide +kernel
theorem dX11_does_89 : decode cX11_does 89 = .ok (.aload_n 2, 1) := by decide +kernel
theorem dX11_does_90 : decode cX11_does 90 = .ok (.iconst 1, 1) := by decide +kernel
theorem dX11_does_91 : decode cX11_does 91 = .ok (.iaload, 1) := by decide +kernel
theorem dX11_does_92 : decode cX11_does 92 = .ok (.aload_n 2, 1) := by decide +kernel
theorem dX11_does_93 : decode cX11_does 93 = .ok (.iconst 2, 1) := by decide +kernel
theorem dX11_does_94 : decode cX11_does 94 = .ok (.iaload, 1) := by decide +kernel
theorem dX11_does_95 : decode cX11_does 95 = .ok (.aload_n 2, 1) := by decide +kernel
theorem dX11_does_96 : decode cX11_does 96 = .ok (.iconst 3, 1) := by decide +kernel
theorem dX11_does_97 : decode cX11_does 97 = .ok (.iaload, 1) := by decide +kernel
theorem dX11_does_98 : decode cX11_does 98 = .ok (.aload_n 2, 1) := by decide +kernel
theorem dX11_does_99 : decode cX11_does 99 = .ok (.iconst 4, 1) := by decide +kernel
theorem dX11_does_100 : decode cX11_does 100 = .ok (.iaload, 1) := by decide +kernel
theorem dX11_does_101 : decode cX11_does 101 = .ok (.aload_n 2, 1) := by decide +kernel
theorem dX11_does_102 : decode cX11_does 102 = .ok (.iconst 5, 1) := by decide +kernel
theorem dX11_does_103 : decode cX11_does 103 = .ok (.iaload, 1) := by decide +kernel
theorem dX11_does_104 : decode cX11_does 104 = .ok (.invokevirtual 280, 3) := by decide +kernel
theorem dX11_does_107 : decode cX11_does 107 = .ok (.ifCond .le 7, 3) := by decide +kernel
theorem dX11_does_110 : decode cX11_does 110 = .ok (.iconst 1, 1) := by decide +kernel
theorem dX11_does_111 : decode cX11_does 111 = .ok (.goto 4, 3) := by decide +kernel
theorem dX11_does_114 : decode cX11_does 114 = .ok (.iconst 0, 1) := by decide +kernel
theorem dX11_does_115 : decode cX11_does 115 = .ok (.ireturn, 1) := by decide +kernel
theorem dX11_does_116 : decode cX11_does 116 = .ok (.aload_n 0, 1) := by decide +kernel
theorem dX11_does_117 : decode cX11_does 117 = .ok (.aload_n 1, 1) := by decide +kernel
theorem dX11_does_118 : decode cX11_does 118 = .ok (.invokevirtual 284, 3) := by decide +kernel
theorem dX11_does_121 : decode cX11_does 121 = .ok (.ireturn, 1) := by decide +kernel
theorem dX11_does_122 : decode cX11_does 122 = .ok (.aload_n 1, 1) := by decide +kernel
theorem dX11_does_123 : decode cX11_does 123 = .ok (.invokestatic 288, 3) := by decide +kernel
theorem dX11_does_126 : decode cX11_does 126 = .ok (.ifCond .le 7, 3) := by decide +kernel
theorem dX11_does_129 : decode cX11_does 129 = .ok (.iconst 1, 1) := by decide +kernel
theorem dX11_does_130 : decode cX11_does 130 = .ok (.goto 4, 3) := by decide +kernel
theorem dX11_does_133 : decode cX11_does 133 = .ok (.iconst 0, 1) := by decide +kernel
theorem dX11_does_134 : decode cX11_does 134 = .ok (.istore_n 3, 1) := by decide +kernel
theorem dX11_does_135 : decode cX11_does 135 = .ok (.iconst 0, 1) := by decide +kernel
theorem dX11_does_136 : decode cX11_does 136 = .ok (.istore 4, 2) := by decide +kernel
theorem dX11_does_138 : decode cX11_does 138 = .ok (.iload 4, 2) := by decide +kernel
theorem dX11_does_140 : decode cX11_does 140 = .ok (.sipush 200, 3) := by decide +kernel
theorem dX11_does_143 : decode cX11_does 143 = .ok (.if_icmp .gt 18, 3) := by decide +kernel
theorem dX11_does_146 : decode cX11_does 146 = .ok (.aload_n 1, 1) := by decide +kernel
theorem dX11_does_147 : decode cX11_does 147 = .ok (.sipush 2480, 3) := by decide +kernel
theorem dX11_does_150 : decode cX11_does 150 = .ok (.iload 4, 2) := by decide +kernel
theorem dX11_does_152 : decode cX11_does 152 = .ok (.iadd, 1) := by decide +kernel
theorem dX11_does_153 : decode cX11_does 153 = .ok (.iconst 0, 1) := by decide +kernel
theorem dX11_does_154 : decode cX11_does 154 = .ok (.iastore, 1) := by decide +kernel
theorem dX11_does_155 : decode cX11_does 155 = .ok (.iinc 4 1, 3) := by decide +kernel
theorem dX11_does_158 : decode cX11_does 158 = .ok (.goto (-20), 3) := by decide +kernel
theorem dX11_does_161 : decode cX11_does 161 = .ok (.iload_n 3, 1) := by decide +kernel
theorem dX11_does_162 : decode cX11_does 162 = .ok (.ireturn, 1) := by decide +kernel
theorem dX11_does_163 : decode cX11_does 163 = .ok (.aload_n 1, 1) := by decide +kernel
theorem dX11_does_164 : decode cX11_does 164 = .ok (.aload_n 2, 1) := by decide +kernel
theorem dX11_does_165 : decode cX11_does 165 = .ok (.iconst 1, 1) := by decide +kernel
theorem dX11_does_166 : decode cX11_does 166 = .ok (.iaload, 1) := by decide +kernel
theorem dX11_does_167 : decode cX11_does 167 = .ok (.invokestatic 292, 3) := by decide +kernel
theorem dX11_does_170 : decode cX11_does 170 = .ok (.ireturn, 1) := by decide +kernel
theorem dX11_goes_0 : decode cX11_goes 0 = .ok (.iload_n 1, 1) := by decide +kernel
theorem dX11_goes_1 : decode cX11_goes 1 = .ok (.istore_n 3, 1) := by decide +kernel
theorem dX11_goes_2 : decode cX11_goes 2 = .ok (.iload_n 3, 1) := by decide +kernel
theorem dX11_goes_3 : decode cX11_goes 3 = .ok (.iload_n 2, 1) := by decide +kernel
theorem dX11_goes_4 : decode cX11_goes 4 = .ok (.if_icmp .ge 154, 3) := by decide +kernel
theorem dX11_goes_7 : decode cX11_goes 7 = .ok (.aload_n 0, 1) := by decide +kernel
theorem dX11_goes_8 : decode cX11_goes 8 = .ok (.getfield 295, 3) := by decide +kernel
theorem dX11_goes_11 : decode cX11_goes 11 = .ok (.sipush 200, 3) := by decide +kernel
theorem dX11_goes_14 : decode cX11_goes 14 = .ok (.if_icmp .ge 144, 3) := by decide +kernel
theorem dX11_goes_17 : decode cX11_goes 17 = .ok (.aload_n 0, 1) := by decide +kernel
theorem dX11_goes_18 : decode cX11_goes 18 = .ok (.dup, 1) := by decide +kernel
theorem dX11_goes_19 : decode cX11_goes 19 = .ok (.getfield 295, 3) := by decide +kernel
theorem dX11_goes_22 : decode cX11_goes 22 = .ok (.iconst 1, 1) := by decide +kernel
theorem dX11_goes_23 : decode cX11_goes 23 = .ok (.iadd, 1) := by decide +kernel
theorem dX11_goes_24 : decode cX11_goes 24 = .ok (.putfield 295, 3) := by decide +kernel
theorem dX11_goes_27 : decode cX11_goes 27 = .ok (.aload_n 0, 1) := by decide +kernel
theorem dX11_goes_28 : decode cX11_goes 28 = .ok (.getfield 64, 3) := by decide +kernel
theorem dX11_goes_31 : decode cX11_goes 31 = .ok (.iload_n 3, 1) := by decide +kernel
theorem dX11_goes_32 : decode cX11_goes 32 = .ok (.aaload, 1) := by decide +kernel
theorem dX11_goes_33 : decode cX11_goes 33 = .ok (.iconst 0, 1) := by decide +kernel
theorem dX11_goes_34 : decode cX11_goes 34 = .ok (.iaload, 1) := by decide +kernel
theorem dX11_goes_35 : decode cX11_goes 35 = .ok (.bipush 6, 2) := by decide +kernel
theorem dX11_goes_37 : decode cX11_goes 37 = .ok (.if_icmp .ne 54, 3) := by decide +kernel
theorem dX11_goes_40 : decode cX11_goes 40 = .ok (.iconst 0, 1) := by decide +kernel
theorem dX11_goes_41 : decode cX11_goes 41 = .ok (.istore 4, 2) := by decide +kernel
theorem dX11_goes_43 : decode cX11_goes 43 = .ok (.iload 4, 2) := by decide +kernel
theorem dX11_goes_45 : decode cX11_goes 45 = .ok (.aload_n 0, 1) := by decide +kernel
theorem dX11_goes_46 : decode cX11_goes 46 = .ok (.getfield 64, 3) := by decide +kernel
theorem dX11_goes_49 : decode cX11_goes 49 = .ok (.iload_n 3, 1) := by decide +kernel
theorem dX11_goes_50 : decode cX11_goes 50 = .ok (.aaload, 1) := by decide +kernel
theorem dX11_goes_51 : decode cX11_goes 51 = .ok (.iconst 1, 1) := by decide +kernel
theorem dX11_goes_52 : decode cX11_goes 52 = .ok (.iaload, 1) := by decide +kernel
theorem dX11_goes_53 : decode cX11_goes 53 = .ok (.if_icmp .ge 35, 3) := by decide +kernel
theorem dX11_goes_56 : decode cX11_goes 56 = .ok (.aload_n 0, 1) := by decide +kernel
theorem dX11_goes_57 : decode cX11_goes 57 = .ok (.getfield 295, 3) := by decide +kernel
theorem dX11_goes_60 : decode cX11_goes 60 = .ok (.sipush 200, 3) := by decide +kernel
theorem dX11_goes_63 : decode cX11_goes 63 = .ok (.if_icmp .ge 25, 3) := by decide +kernel
theorem dX11_goes_66 : decode cX11_goes 66 = .ok (.aload_n 0, 1) := by decide +kernel
theorem dX11_goes_67 : decode cX11_goes 67 = .ok (.iload_n 3, 1) := by decide +kernel
theorem dX11_goes_68 : decode cX11_goes 68 = .ok (.iconst 1, 1) := by decide +kernel
theorem dX11_goes_69 : decode cX11_goes 69 = .ok (.iadd, 1) := by decide +kernel
theorem dX11_goes_70 : decode cX11_goes 70 = .ok (.aload_n 0, 1) := by decide +kernel
theorem dX11_goes_71 : decode cX11_goes 71 = .ok (.getfield 64, 3) := by decide +kernel
theorem dX11_goes_74 : decode cX11_goes 74 = .ok (.iload_n 3, 1) := by decide +kernel
theorem dX11_goes_75 : decode cX11_goes 75 = .ok (.aaload, 1) := by decide +kernel
theorem dX11_goes_76 : decode cX11_goes 76 = .ok (.bipush 6, 2) := by decide +kernel
theorem dX11_goes_78 : decode cX11_goes 78 = .ok (.iaload, 1) := by decide +kernel
theorem dX11_goes_79 : decode cX11_goes 79 = .ok (.invokevirtual 298, 3) := by decide +kernel
theorem dX11_goes_82 : decode cX11_goes 82 = .ok (.iinc 4 1, 3) := by decide +kernel
theorem dX11_goes_85 : decode cX11_goes 85 = .ok (.goto (-42), 3) := by decide +kernel
theorem dX11_goes_88 : decode cX11_goes 88 = .ok (.goto 57, 3) := by decide +kernel
theorem dX11_goes_91 : decode cX11_goes 91 = .ok (.aload_n 0, 1) := by decide +kernel
theorem dX11_goes_92 : decode cX11_goes 92 = .ok (.aload_n 0, 1) := by decide +kernel
theorem dX11_goes_93 : decode cX11_goes 93 = .ok (.getfield 67, 3) := by decide +kernel
theorem dX11_goes_96 : decode cX11_goes 96 = .ok (.aload_n 0, 1) := by decide +kernel
theorem dX11_goes_97 : decode cX11_goes 97 = .ok (.getfield 64, 3) := by decide +kernel
theorem dX11_goes_100 : decode cX11_goes 100 = .ok (.iload_n 3, 1) := by decide +kernel
theorem dX11_goes_101 : decode cX11_goes 101 = .ok (.aaload, 1) := by decide +kernel
theorem dX11_goes_102 : decode cX11_goes 102 = .ok (.invokevirtual 301, 3) := by decide +kernel
theorem dX11_goes_105 : decode cX11_goes 105 = .ok (.istore 4, 2) := by decide +kernel
theorem dX11_goes_107 : decode cX11_goes 107 = .ok (.aload_n 0, 1) := by decide +kernel
theorem dX11_goes_108 : decode cX11_goes 108 = .ok (.dup, 1) := by decide +kernel
theorem dX11_goes_109 : decode cX11_goes 109 = .ok (.getfield 305, 3) := by decide +kernel
theorem dX11_goes_112 : decode cX11_goes 112 = .ok (.iload 4, 2) := by decide +kernel
theorem dX11_goes_114 : decode cX11_goes 114 = .ok (.ifCond .eq 7, 3) := by decide +kernel
theorem dX11_goes_117 : decode cX11_goes 117 = .ok (.iconst 1, 1) := by decide +kernel
theorem dX11_goes_118 : decode cX11_goes 118 = .ok (.goto 4, 3) := by decide +kernel
theorem dX11_goes_121 : decode cX11_goes 121 = .ok (.iconst 0, 1) := by decide +kernel
theorem dX11_goes_122 : decode cX11_goes 122 = .ok (.iadd, 1) := by decide +kernel
theorem dX11_goes_123 : decode cX11_goes 123 = .ok (.putfield 305, 3) := by decide +kernel
theorem dX11_goes_126 : decode cX11_goes 126 = .ok (.aload_n 0, 1) := by decide +kernel
theorem dX11_goes_127 : decode cX11_goes 127 = .ok (.dup, 1) := by decide +kernel
theorem dX11_goes_128 : decode cX11_goes 128 = .ok (.getfield 184, 3) := by decide +kernel
theorem dX11_goes_131 : decode cX11_goes 131 = .ok (.iload 4, 2) := by decide +kernel
theorem dX11_goes_133 : decode cX11_goes 133 = .ok (.ifCond .eq 7, 3) := by decide +kernel
theorem dX11_goes_136 : decode cX11_goes 136 = .ok (.iconst 0, 1) := by decide +kernel
theorem dX11_goes_137 : decode cX11_goes 137 = .ok (.goto 4, 3) := by decide +kernel
theorem dX11_goes_140 : decode cX11_goes 140 = .ok (.iconst 1, 1) := by decide +kernel
theorem dX11_goes_141 : decode cX11_goes 141 = .ok (.iadd, 1) := by decide +kernel
theorem dX11_goes_142 : decode cX11_goes 142 = .ok (.putfield 184, 3) := by decide +kernel
theorem dX11_goes_145 : decode cX11_goes 145 = .ok (.aload_n 0, 1) := by decide +kernel
theorem dX11_goes_146 : decode cX11_goes 146 = .ok (.getfield 64, 3) := by decide +kernel
theorem dX11_goes_149 : decode cX11_goes 149 = .ok (.iload_n 3, 1) := by decide +kernel
theorem dX11_goes_150 : decode cX11_goes 150 = .ok (.aaload, 1) := by decide +kernel
theorem dX11_goes_151 : decode cX11_goes 151 = .ok (.bipush 6, 2) := by decide +kernel
theorem dX11_goes_153 : decode cX11_goes 153 = .ok (.iaload, 1) := by decide +kernel
theorem dX11_goes_154 : decode cX11_goes 154 = .ok (.istore_n 3, 1) := by decide +kernel
theorem dX11_goes_155 : decode cX11_goes 155 = .ok (.goto (-153), 3) := by decide +kernel
theorem dX11_goes_158 : decode cX11_goes 158 = .ok (.return_, 1) := by decide +kernel
theorem dX11_copies_0 : decode cX11_copies 0 = .ok (.iconst 0, 1) := by decide +kernel
theorem dX11_copies_1 : decode cX11_copies 1 = .ok (.istore_n 2, 1) := by decide +kernel
theorem dX11_copies_2 : decode cX11_copies 2 = .ok (.iload_n 2, 1) := by decide +kernel
theorem dX11_copies_3 : decode cX11_copies 3 = .ok (.sipush 2685, 3) := by decide +kernel
theorem dX11_copies_6 : decode cX11_copies 6 = .ok (.if_icmp .ge 15, 3) := by decide +kernel
theorem dX11_copies_9 : decode cX11_copies 9 = .ok (.aload_n 1, 1) := by decide +kernel
theorem dX11_copies_10 : decode cX11_copies 10 = .ok (.iload_n 2, 1) := by decide +kernel
theorem dX11_copies_11 : decode cX11_copies 11 = .ok (.aload_n 0, 1) := by decide +kernel
theorem dX11_copies_12 : decode cX11_copies 12 = .ok (.iload_n 2, 1) := by decide +kernel
theorem dX11_copies_13 : decode cX11_copies 13 = .ok (.iaload, 1) := by decide +kernel
theorem dX11_copies_14 : decode cX11_copies 14 = .ok (.iastore, 1) := by decide +kernel
theorem dX11_copies_15 : decode cX11_copies 15 = .ok (.iinc 2 1, 3) := by decide +kernel
theorem dX11_copies_18 : decode cX11_copies 18 = .ok (.goto (-16), 3) := by decide +kernel
theorem dX11_copies_21 : decode cX11_copies 21 = .ok (.return_, 1) := by decide +kernel
theorem dX11_work_0 : decode cX11_work 0 = .ok (.aload_n 0, 1) := by decide +kernel
theorem dX11_work_1 : decode cX11_work 1 = .ok (.iconst 0, 1) := by decide +kernel
theorem dX11_work_2 : decode cX11_work 2 = .ok (.putfield 85, 3) := by decide +kernel
theorem dX11_work_5 : decode cX11_work 5 = .ok (.aload_n 0, 1) := by decide +kernel
theorem dX11_work_6 : decode cX11_work 6 = .ok (.iload_n 1, 1) := by decide +kernel
theorem dX11_work_7 : decode cX11_work 7 = .ok (.iconst 0, 1) := by decide +kernel
theorem dX11_work_8 : decode cX11_work 8 = .ok (.aload_n 0, 1) := by decide +kernel
theorem dX11_work_9 : decode cX11_work 9 = .ok (.getfield 88, 3) := by decide +kernel
theorem dX11_work_12 : decode cX11_work 12 = .ok (.invokestatic 119, 3) := by decide +kernel
theorem dX11_work_15 : decode cX11_work 15 = .ok (.ifCond .eq 10, 3) := by decide +kernel
theorem dX11_work_18 : decode cX11_work 18 = .ok (.iload_n 1, 1) := by decide +kernel
theorem dX11_work_19 : decode cX11_work 19 = .ok (.sipush 200, 3) := by decide +kernel
theorem dX11_work_22 : decode cX11_work 22 = .ok (.if_icmp .le 7, 3) := by decide +kernel
theorem dX11_work_25 : decode cX11_work 25 = .ok (.iconst 1, 1) := by decide +kernel
theorem dX11_work_26 : decode cX11_work 26 = .ok (.goto 4, 3) := by decide +kernel
theorem dX11_work_29 : decode cX11_work 29 = .ok (.iconst 0, 1) := by decide +kernel
theorem dX11_work_30 : decode cX11_work 30 = .ok (.iconst 1, 1) := by decide +kernel
theorem dX11_work_31 : decode cX11_work 31 = .ok (.iconst 2, 1) := by decide +kernel
theorem dX11_work_32 : decode cX11_work 32 = .ok (.invokevirtual 158, 3) := by decide +kernel
theorem dX11_work_35 : decode cX11_work 35 = .ok (.ifCond .eq 5, 3) := by decide +kernel
theorem dX11_work_38 : decode cX11_work 38 = .ok (.iconst 0, 1) := by decide +kernel
theorem dX11_work_39 : decode cX11_work 39 = .ok (.ireturn, 1) := by decide +kernel
theorem dX11_work_40 : decode cX11_work 40 = .ok (.aload_n 0, 1) := by decide +kernel
theorem dX11_work_41 : decode cX11_work 41 = .ok (.getfield 181, 3) := by decide +kernel
theorem dX11_work_44 : decode cX11_work 44 = .ok (.bipush 8, 2) := by decide +kernel
theorem dX11_work_46 : decode cX11_work 46 = .ok (.if_icmp .ne 16, 3) := by decide +kernel
theorem dX11_work_49 : decode cX11_work 49 = .ok (.aload_n 0, 1) := by decide +kernel
theorem dX11_work_50 : decode cX11_work 50 = .ok (.iconst 0, 1) := by decide +kernel
theorem dX11_work_51 : decode cX11_work 51 = .ok (.putfield 88, 3) := by decide +kernel
theorem dX11_work_54 : decode cX11_work 54 = .ok (.aload_n 0, 1) := by decide +kernel
theorem dX11_work_55 : decode cX11_work 55 = .ok (.iconst (-1), 1) := by decide +kernel
theorem dX11_work_56 : decode cX11_work 56 = .ok (.putfield 9, 3) := by decide +kernel
theorem dX11_work_59 : decode cX11_work 59 = .ok (.bipush (-20), 2) := by decide +kernel
theorem dX11_work_61 : decode cX11_work 61 = .ok (.ireturn, 1) := by decide +kernel
theorem dX11_work_62 : decode cX11_work 62 = .ok (.aload_n 0, 1) := by decide +kernel
theorem dX11_work_63 : decode cX11_work 63 = .ok (.iload_n 1, 1) := by decide +kernel
theorem dX11_work_64 : decode cX11_work 64 = .ok (.invokevirtual 162, 3) := by decide +kernel
theorem dX11_work_67 : decode cX11_work 67 = .ok (.aload_n 0, 1) := by decide +kernel
theorem dX11_work_68 : decode cX11_work 68 = .ok (.iconst 0, 1) := by decide +kernel
theorem dX11_work_69 : decode cX11_work 69 = .ok (.putfield 231, 3) := by decide +kernel
theorem dX11_work_72 : decode cX11_work 72 = .ok (.aload_n 0, 1) := by decide +kernel
theorem dX11_work_73 : decode cX11_work 73 = .ok (.getfield 101, 3) := by decide +kernel
theorem dX11_work_76 : decode cX11_work 76 = .ok (.ifCond .ne 25, 3) := by decide +kernel
theorem dX11_work_79 : decode cX11_work 79 = .ok (.aload_n 0, 1) := by decide +kernel
theorem dX11_work_80 : decode cX11_work 80 = .ok (.getfield 94, 3) := by decide +kernel
theorem dX11_work_83 : decode cX11_work 83 = .ok (.aload_n 0, 1) := by decide +kernel
theorem dX11_work_84 : decode cX11_work 84 = .ok (.getfield 91, 3) := by decide +kernel
theorem dX11_work_87 : decode cX11_work 87 = .ok (.if_icmp .ge 14, 3) := by decide +kernel
theorem dX11_work_90 : decode cX11_work 90 = .ok (.aload_n 0, 1) := by decide +kernel
theorem dX11_work_91 : decode cX11_work 91 = .ok (.invokevirtual 234, 3) := by decide +kernel
theorem dX11_work_94 : decode cX11_work 94 = .ok (.aload_n 0, 1) := by decide +kernel
theorem dX11_work_95 : decode cX11_work 95 = .ok (.invokevirtual 107, 3) := by decide +kernel
theorem dX11_work_98 : decode cX11_work 98 = .ok (.goto (-26), 3) := by decide +kernel
theorem dX11_work_101 : decode cX11_work 101 = .ok (.aload_n 0, 1) := by decide +kernel
theorem dX11_work_102 : decode cX11_work 102 = .ok (.getfield 101, 3) := by decide +kernel
theorem dX11_work_105 : decode cX11_work 105 = .ok (.ifCond .eq 8, 3) := by decide +kernel
theorem dX11_work_108 : decode cX11_work 108 = .ok (.aload_n 0, 1) := by decide +kernel
theorem dX11_work_109 : decode cX11_work 109 = .ok (.invokevirtual 168, 3) := by decide +kernel
theorem dX11_work_112 : decode cX11_work 112 = .ok (.ireturn, 1) := by decide +kernel
theorem dX11_work_113 : decode cX11_work 113 = .ok (.aload_n 0, 1) := by decide +kernel
theorem dX11_work_114 : decode cX11_work 114 = .ok (.iconst (-1), 1) := by decide +kernel
theorem dX11_work_115 : decode cX11_work 115 = .ok (.putfield 9, 3) := by decide +kernel
theorem dX11_work_118 : decode cX11_work 118 = .ok (.aload_n 0, 1) := by decide +kernel
theorem dX11_work_119 : decode cX11_work 119 = .ok (.getfield 67, 3) := by decide +kernel
theorem dX11_work_122 : decode cX11_work 122 = .ok (.aload_n 0, 1) := by decide +kernel
theorem dX11_work_123 : decode cX11_work 123 = .ok (.getfield 73, 3) := by decide +kernel
theorem dX11_work_126 : decode cX11_work 126 = .ok (.aload_n 0, 1) := by decide +kernel
theorem dX11_work_127 : decode cX11_work 127 = .ok (.getfield 181, 3) := by decide +kernel
theorem dX11_work_130 : decode cX11_work 130 = .ok (.aaload, 1) := by decide +kernel
theorem dX11_work_131 : decode cX11_work 131 = .ok (.invokestatic 308, 3) := by decide +kernel
theorem dX11_work_134 : decode cX11_work 134 = .ok (.aload_n 0, 1) := by decide +kernel
theorem dX11_work_135 : decode cX11_work 135 = .ok (.dup, 1) := by decide +kernel
theorem dX11_work_136 : decode cX11_work 136 = .ok (.getfield 181, 3) := by decide +kernel
theorem dX11_work_139 : decode cX11_work 139 = .ok (.iconst 1, 1) := by decide +kernel
theorem dX11_work_140 : decode cX11_work 140 = .ok (.iadd, 1) := by decide +kernel
theorem dX11_work_141 : decode cX11_work 141 = .ok (.putfield 181, 3) := by decide +kernel
theorem dX11_work_144 : decode cX11_work 144 = .ok (.aload_n 0, 1) := by decide +kernel
theorem dX11_work_145 : decode cX11_work 145 = .ok (.iconst 0, 1) := by decide +kernel
theorem dX11_work_146 : decode cX11_work 146 = .ok (.putfield 295, 3) := by decide +kernel
theorem dX11_work_149 : decode cX11_work 149 = .ok (.aload_n 0, 1) := by decide +kernel
theorem dX11_work_150 : decode cX11_work 150 = .ok (.iconst 0, 1) := by decide +kernel
theorem dX11_work_151 : decode cX11_work 151 = .ok (.putfield 305, 3) := by decide +kernel
theorem dX11_work_154 : decode cX11_work 154 = .ok (.aload_n 0, 1) := by decide +kernel
theorem dX11_work_155 : decode cX11_work 155 = .ok (.iconst 0, 1) := by decide +kernel
theorem dX11_work_156 : decode cX11_work 156 = .ok (.putfield 184, 3) := by decide +kernel
theorem dX11_work_159 : decode cX11_work 159 = .ok (.aload_n 0, 1) := by decide +kernel
theorem dX11_work_160 : decode cX11_work 160 = .ok (.iconst 0, 1) := by decide +kernel
theorem dX11_work_161 : decode cX11_work 161 = .ok (.aload_n 0, 1) := by decide +kernel
theorem dX11_work_162 : decode cX11_work 162 = .ok (.getfield 231, 3) := by decide +kernel
theorem dX11_work_165 : decode cX11_work 165 = .ok (.invokevirtual 298, 3) := by decide +kernel
theorem dX11_work_168 : decode cX11_work 168 = .ok (.aload_n 0, 1) := by decide +kernel
theorem dX11_work_169 : decode cX11_work 169 = .ok (.getfield 305, 3) := by decide +kernel
theorem dX11_work_172 : decode cX11_work 172 = .ok (.ireturn, 1) := by decide +kernel
theorem dX11_undo_0 : decode cX11_undo 0 = .ok (.aload_n 0, 1) := by decide +kernel
theorem dX11_undo_1 : decode cX11_undo 1 = .ok (.iconst 0, 1) := by decide +kernel
theorem dX11_undo_2 : decode cX11_undo 2 = .ok (.putfield 85, 3) := by decide +kernel
theorem dX11_undo_5 : decode cX11_undo 5 = .ok (.aload_n 0, 1) := by decide +kernel
theorem dX11_undo_6 : decode cX11_undo 6 = .ok (.getfield 181, 3) := by decide +kernel
theorem dX11_undo_9 : decode cX11_undo 9 = .ok (.ifCond .ne 5, 3) := by decide +kernel
theorem dX11_undo_12 : decode cX11_undo 12 = .ok (.iconst (-1), 1) := by decide +kernel
theorem dX11_undo_13 : decode cX11_undo 13 = .ok (.ireturn, 1) := by decide +kernel
theorem dX11_undo_14 : decode cX11_undo 14 = .ok (.aload_n 0, 1) := by decide +kernel
theorem dX11_undo_15 : decode cX11_undo 15 = .ok (.dup, 1) := by decide +kernel
theorem dX11_undo_16 : decode cX11_undo 16 = .ok (.getfield 181, 3) := by decide +kernel
theorem dX11_undo_19 : decode cX11_undo 19 = .ok (.iconst 1, 1) := by decide +kernel
theorem dX11_undo_20 : decode cX11_undo 20 = .ok (.isub, 1) := by decide +kernel
theorem dX11_undo_21 : decode cX11_undo 21 = .ok (.putfield 181, 3) := by decide +kernel
theorem dX11_undo_24 : decode cX11_undo 24 = .ok (.aload_n 0, 1) := by decide +kernel
theorem dX11_undo_25 : decode cX11_undo 25 = .ok (.getfield 73, 3) := by decide +kernel
theorem dX11_undo_28 : decode cX11_undo 28 = .ok (.aload_n 0, 1) := by decide +kernel
theorem dX11_undo_29 : decode cX11_undo 29 = .ok (.getfield 181, 3) := by decide +kernel
theorem dX11_undo_32 : decode cX11_undo 32 = .ok (.aaload, 1) := by decide +kernel
theorem dX11_undo_33 : decode cX11_undo 33 = .ok (.aload_n 0, 1) := by decide +kernel
theorem dX11_undo_34 : decode cX11_undo 34 = .ok (.getfield 67, 3) := by decide +kernel
theorem dX11_undo_37 : decode cX11_undo 37 = .ok (.invokestatic 308, 3) := by decide +kernel
theorem dX11_undo_40 : decode cX11_undo 40 = .ok (.aload_n 0, 1) := by decide +kernel
theorem dX11_undo_41 : decode cX11_undo 41 = .ok (.iconst 0, 1) := by decide +kernel
theorem dX11_undo_42 : decode cX11_undo 42 = .ok (.putfield 184, 3) := by decide +kernel
theorem dX11_undo_45 : decode cX11_undo 45 = .ok (.aload_n 0, 1) := by decide +kernel
theorem dX11_undo_46 : decode cX11_undo 46 = .ok (.getfield 181, 3) := by decide +kernel
theorem dX11_undo_49 : decode cX11_undo 49 = .ok (.ireturn, 1) := by decide +kernel
theorem dX11_told_0 : decode cX11_told 0 = .ok (.aload_n 0, 1) := by decide +kernel
theorem dX11_told_1 : decode cX11_told 1 = .ok (.iconst 0, 1) := by decide +kernel
theorem dX11_told_2 : decode cX11_told 2 = .ok (.putfield 85, 3) := by decide +kernel
theorem dX11_told_5 : decode cX11_told 5 = .ok (.aload_n 0, 1) := by decide +kernel
theorem dX11_told_6 : decode cX11_told 6 = .ok (.iload_n 1, 1) := by decide +kernel
theorem dX11_told_7 : decode cX11_told 7 = .ok (.iconst 0, 1) := by decide +kernel
theorem dX11_told_8 : decode cX11_told 8 = .ok (.bipush 8, 2) := by decide +kernel
theorem dX11_told_10 : decode cX11_told 10 = .ok (.invokestatic 119, 3) := by decide +kernel
theorem dX11_told_13 : decode cX11_told 13 = .ok (.ifCond .ne 7, 3) := by decide +kernel
theorem dX11_told_16 : decode cX11_told 16 = .ok (.iconst 1, 1) := by decide +kernel
theorem dX11_told_17 : decode cX11_told 17 = .ok (.goto 4, 3) := by decide +kernel
theorem dX11_told_20 : decode cX11_told 20 = .ok (.iconst 0, 1) := by decide +kernel
theorem dX11_told_21 : decode cX11_told 21 = .ok (.iconst 1, 1) := by decide +kernel
theorem dX11_told_22 : decode cX11_told 22 = .ok (.iconst 2, 1) := by decide +kernel
theorem dX11_told_23 : decode cX11_told 23 = .ok (.invokevirtual 158, 3) := by decide +kernel
theorem dX11_told_26 : decode cX11_told 26 = .ok (.ifCond .eq 5, 3) := by decide +kernel
theorem dX11_told_29 : decode cX11_told 29 = .ok (.iconst 0, 1) := by decide +kernel
theorem dX11_told_30 : decode cX11_told 30 = .ok (.ireturn, 1) := by decide +kernel
theorem dX11_told_31 : decode cX11_told 31 = .ok (.iload_n 1, 1) := by decide +kernel
theorem dX11_told_32 : decode cX11_told 32 = .ok (.tableswitch 95 0 7 #[48, 48, 48, 55, 64, 73, 81, 90], 48) := by decide +kernel
theorem dX11_told_80 : decode cX11_told 80 = .ok (.aload_n 0, 1) := by decide +kernel
theorem dX11_told_81 : decode cX11_told 81 = .ok (.getfield 23, 3) := by decide +kernel
theorem dX11_told_84 : decode cX11_told 84 = .ok (.iload_n 1, 1) := by decide +kernel
theorem dX11_told_85 : decode cX11_told 85 = .ok (.iaload, 1) := by decide +kernel
theorem dX11_told_86 : decode cX11_told 86 = .ok (.ireturn, 1) := by decide +kernel
theorem dX11_told_87 : decode cX11_told 87 = .ok (.aload_n 0, 1) := by decide +kernel
theorem dX11_told_88 : decode cX11_told 88 = .ok (.getfield 67, 3) := by decide +kernel
theorem dX11_told_91 : decode cX11_told 91 = .ok (.sipush 2684, 3) := by decide +kernel
theorem dX11_told_94 : decode cX11_told 94 = .ok (.iaload, 1) := by decide +kernel
theorem dX11_told_95 : decode cX11_told 95 = .ok (.ireturn, 1) := by decide +kernel
theorem dX11_told_96 : decode cX11_told 96 = .ok (.aload_n 0, 1) := by decide +kernel
theorem dX11_told_97 : decode cX11_told 97 = .ok (.aload_n 0, 1) := by decide +kernel
theorem dX11_told_98 : decode cX11_told 98 = .ok (.getfield 67, 3) := by decide +kernel
theorem dX11_told_101 : decode cX11_told 101 = .ok (.invokevirtual 312, 3) := by decide +kernel
theorem dX11_told_104 : decode cX11_told 104 = .ok (.ireturn, 1) := by decide +kernel
theorem dX11_told_105 : decode cX11_told 105 = .ok (.aload_n 0, 1) := by decide +kernel
theorem dX11_told_106 : decode cX11_told 106 = .ok (.getfield 67, 3) := by decide +kernel
theorem dX11_told_109 : decode cX11_told 109 = .ok (.invokestatic 288, 3) := by decide +kernel
theorem dX11_told_112 : decode cX11_told 112 = .ok (.ireturn, 1) := by decide +kernel
theorem dX11_told_113 : decode cX11_told 113 = .ok (.aload_n 0, 1) := by decide +kernel
theorem dX11_told_114 : decode cX11_told 114 = .ok (.getfield 67, 3) := by decide +kernel
theorem dX11_told_117 : decode cX11_told 117 = .ok (.sipush 2683, 3) := by decide +kernel
theorem dX11_told_120 : decode cX11_told 120 = .ok (.iaload, 1) := by decide +kernel
theorem dX11_told_121 : decode cX11_told 121 = .ok (.ireturn, 1) := by decide +kernel
theorem dX11_told_122 : decode cX11_told 122 = .ok (.aload_n 0, 1) := by decide +kernel
theorem dX11_told_123 : decode cX11_told 123 = .ok (.getfield 178, 3) := by decide +kernel
theorem dX11_told_126 : decode cX11_told 126 = .ok (.ireturn, 1) := by decide +kernel
theorem dX11_told_127 : decode cX11_told 127 = .ok (.aload_n 0, 1) := by decide +kernel
theorem dX11_told_128 : decode cX11_told 128 = .ok (.getfield 184, 3) := by decide +kernel
theorem dX11_told_131 : decode cX11_told 131 = .ok (.ireturn, 1) := by decide +kernel
theorem dX11_isPane_0 : decode cX11_isPane 0 = .ok (.iload_n 1, 1) := by decide +kernel
theorem dX11_isPane_1 : decode cX11_isPane 1 = .ok (.iconst 0, 1) := by decide +kernel
theorem dX11_isPane_2 : decode cX11_isPane 2 = .ok (.aload_n 0, 1) := by decide +kernel
theorem dX11_isPane_3 : decode cX11_isPane 3 = .ok (.getfield 23, 3) := by decide +kernel
theorem dX11_isPane_6 : decode cX11_isPane 6 = .ok (.iconst 0, 1) := by decide +kernel
theorem dX11_isPane_7 : decode cX11_isPane 7 = .ok (.iaload, 1) := by decide +kernel
theorem dX11_isPane_8 : decode cX11_isPane 8 = .ok (.iconst 1, 1) := by decide +kernel
theorem dX11_isPane_9 : decode cX11_isPane 9 = .ok (.isub, 1) := by decide +kernel
theorem dX11_isPane_10 : decode cX11_isPane 10 = .ok (.invokestatic 119, 3) := by decide +kernel
theorem dX11_isPane_13 : decode cX11_isPane 13 = .ok (.ireturn, 1) := by decide +kernel
theorem dX11_isOrder_0 : decode cX11_isOrder 0 = .ok (.iload_n 1, 1) := by decide +kernel
theorem dX11_isOrder_1 : decode cX11_isOrder 1 = .ok (.iconst 0, 1) := by decide +kernel
theorem dX11_isOrder_2 : decode cX11_isOrder 2 = .ok (.aload_n 0, 1) := by decide +kernel
theorem dX11_isOrder_3 : decode cX11_isOrder 3 = .ok (.getfield 23, 3) := by decide +kernel
theorem dX11_isOrder_6 : decode cX11_isOrder 6 = .ok (.iconst 1, 1) := by decide +kernel
theorem dX11_isOrder_7 : decode cX11_isOrder 7 = .ok (.iaload, 1) := by decide +kernel
theorem dX11_isOrder_8 : decode cX11_isOrder 8 = .ok (.iconst 1, 1) := by decide +kernel
theorem dX11_isOrder_9 : decode cX11_isOrder 9 = .ok (.isub, 1) := by decide +kernel
theorem dX11_isOrder_10 : decode cX11_isOrder 10 = .ok (.invokestatic 119, 3) := by decide +kernel
theorem dX11_isOrder_13 : decode cX11_isOrder 13 = .ok (.ireturn, 1) := by decide +kernel
theorem dX11_pane_0 : decode cX11_pane 0 = .ok (.aload_n 0, 1) := by decide +kernel
theorem dX11_pane_1 : decode cX11_pane 1 = .ok (.iconst 0, 1) := by decide +kernel
theorem dX11_pane_2 : decode cX11_pane 2 = .ok (.putfield 85, 3) := by decide +kernel
theorem dX11_pane_5 : decode cX11_pane 5 = .ok (.aload_n 0, 1) := by decide +kernel
theorem dX11_pane_6 : decode cX11_pane 6 = .ok (.aload_n 0, 1) := by decide +kernel
theorem dX11_pane_7 : decode cX11_pane 7 = .ok (.iload_n 1, 1) := by decide +kernel
theorem dX11_pane_8 : decode cX11_pane 8 = .ok (.invokevirtual 315, 3) := by decide +kernel
theorem dX11_pane_11 : decode cX11_pane 11 = .ok (.ifCond .ne 7, 3) := by decide +kernel
theorem dX11_pane_14 : decode cX11_pane 14 = .ok (.iconst 1, 1) := by decide +kernel
theorem dX11_pane_15 : decode cX11_pane 15 = .ok (.goto 4, 3) := by decide +kernel
theorem dX11_pane_18 : decode cX11_pane 18 = .ok (.iconst 0, 1) := by decide +kernel
theorem dX11_pane_19 : decode cX11_pane 19 = .ok (.iconst 1, 1) := by decide +kernel
theorem dX11_pane_20 : decode cX11_pane 20 = .ok (.iconst 1, 1) := by decide +kernel
theorem dX11_pane_21 : decode cX11_pane 21 = .ok (.invokevirtual 158, 3) := by decide +kernel
theorem dX11_pane_24 : decode cX11_pane 24 = .ok (.ifCond .ne 26, 3) := by decide +kernel
