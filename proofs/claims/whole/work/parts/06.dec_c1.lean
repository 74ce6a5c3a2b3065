theorem dX8_passDay_101 : decode cX8_passDay 101 = .ok (.ireturn, 1) := by decide +kernel
theorem dX8_judgeOrders_0 : decode cX8_judgeOrders 0 = .ok (.iconst 0, 1) := by decide +kernel
theorem dX8_judgeOrders_1 : decode cX8_judgeOrders 1 = .ok (.istore_n 2, 1) := by decide +kernel
theorem dX8_judgeOrders_2 : decode cX8_judgeOrders 2 = .ok (.iload_n 2, 1) := by decide +kernel
theorem dX8_judgeOrders_3 : decode cX8_judgeOrders 3 = .ok (.aload_n 1, 1) := by decide +kernel
theorem dX8_judgeOrders_4 : decode cX8_judgeOrders 4 = .ok (.getfield 54, 3) := by decide +kernel
theorem dX8_judgeOrders_7 : decode cX8_judgeOrders 7 = .ok (.if_icmp .ge 62, 3) := by decide +kernel
theorem dX8_judgeOrders_10 : decode cX8_judgeOrders 10 = .ok (.aload_n 1, 1) := by decide +kernel
theorem dX8_judgeOrders_11 : decode cX8_judgeOrders 11 = .ok (.iload_n 2, 1) := by decide +kernel
theorem dX8_judgeOrders_12 : decode cX8_judgeOrders 12 = .ok (.iconst 4, 1) := by decide +kernel
theorem dX8_judgeOrders_13 : decode cX8_judgeOrders 13 = .ok (.invokevirtual 57, 3) := by decide +kernel
theorem dX8_judgeOrders_16 : decode cX8_judgeOrders 16 = .ok (.aload_n 0, 1) := by decide +kernel
theorem dX8_judgeOrders_17 : decode cX8_judgeOrders 17 = .ok (.getfield 27, 3) := by decide +kernel
theorem dX8_judgeOrders_20 : decode cX8_judgeOrders 20 = .ok (.if_icmp .ne 7, 3) := by decide +kernel
theorem dX8_judgeOrders_23 : decode cX8_judgeOrders 23 = .ok (.iconst 1, 1) := by decide +kernel
theorem dX8_judgeOrders_24 : decode cX8_judgeOrders 24 = .ok (.goto 4, 3) := by decide +kernel
theorem dX8_judgeOrders_27 : decode cX8_judgeOrders 27 = .ok (.iconst 0, 1) := by decide +kernel
theorem dX8_judgeOrders_28 : decode cX8_judgeOrders 28 = .ok (.istore_n 3, 1) := by decide +kernel
theorem dX8_judgeOrders_29 : decode cX8_judgeOrders 29 = .ok (.iload_n 3, 1) := by decide +kernel
theorem dX8_judgeOrders_30 : decode cX8_judgeOrders 30 = .ok (.ifCond .eq 33, 3) := by decide +kernel
theorem dX8_judgeOrders_33 : decode cX8_judgeOrders 33 = .ok (.aload_n 0, 1) := by decide +kernel
theorem dX8_judgeOrders_34 : decode cX8_judgeOrders 34 = .ok (.aload_n 1, 1) := by decide +kernel
theorem dX8_judgeOrders_35 : decode cX8_judgeOrders 35 = .ok (.iload_n 2, 1) := by decide +kernel
theorem dX8_judgeOrders_36 : decode cX8_judgeOrders 36 = .ok (.invokevirtual 60, 3) := by decide +kernel
theorem dX8_judgeOrders_39 : decode cX8_judgeOrders 39 = .ok (.invokevirtual 64, 3) := by decide +kernel
theorem dX8_judgeOrders_42 : decode cX8_judgeOrders 42 = .ok (.aload_n 1, 1) := by decide +kernel
theorem dX8_judgeOrders_43 : decode cX8_judgeOrders 43 = .ok (.iload_n 2, 1) := by decide +kernel
theorem dX8_judgeOrders_44 : decode cX8_judgeOrders 44 = .ok (.iconst 3, 1) := by decide +kernel
theorem dX8_judgeOrders_45 : decode cX8_judgeOrders 45 = .ok (.invokevirtual 57, 3) := by decide +kernel
theorem dX8_judgeOrders_48 : decode cX8_judgeOrders 48 = .ok (.if_icmp .ne 15, 3) := by decide +kernel
theorem dX8_judgeOrders_51 : decode cX8_judgeOrders 51 = .ok (.aload_n 0, 1) := by decide +kernel
theorem dX8_judgeOrders_52 : decode cX8_judgeOrders 52 = .ok (.dup, 1) := by decide +kernel
theorem dX8_judgeOrders_53 : decode cX8_judgeOrders 53 = .ok (.getfield 67, 3) := by decide +kernel
theorem dX8_judgeOrders_56 : decode cX8_judgeOrders 56 = .ok (.iconst 1, 1) := by decide +kernel
theorem dX8_judgeOrders_57 : decode cX8_judgeOrders 57 = .ok (.iload_n 2, 1) := by decide +kernel
theorem dX8_judgeOrders_58 : decode cX8_judgeOrders 58 = .ok (.ishl, 1) := by decide +kernel
theorem dX8_judgeOrders_59 : decode cX8_judgeOrders 59 = .ok (.ior, 1) := by decide +kernel
theorem dX8_judgeOrders_60 : decode cX8_judgeOrders 60 = .ok (.putfield 67, 3) := by decide +kernel
theorem dX8_judgeOrders_63 : decode cX8_judgeOrders 63 = .ok (.iinc 2 1, 3) := by decide +kernel
theorem dX8_judgeOrders_66 : decode cX8_judgeOrders 66 = .ok (.goto (-64), 3) := by decide +kernel
theorem dX8_judgeOrders_69 : decode cX8_judgeOrders 69 = .ok (.return_, 1) := by decide +kernel
theorem dX8_settleOn_0 : decode cX8_settleOn 0 = .ok (.aload_n 1, 1) := by decide +kernel
theorem dX8_settleOn_1 : decode cX8_settleOn 1 = .ok (.iload 4, 2) := by decide +kernel
theorem dX8_settleOn_3 : decode cX8_settleOn 3 = .ok (.invokevirtual 70, 3) := by decide +kernel
theorem dX8_settleOn_6 : decode cX8_settleOn 6 = .ok (.ifCond .eq 4, 3) := by decide +kernel
theorem dX8_settleOn_9 : decode cX8_settleOn 9 = .ok (.return_, 1) := by decide +kernel
theorem dX8_settleOn_10 : decode cX8_settleOn 10 = .ok (.aload_n 0, 1) := by decide +kernel
theorem dX8_settleOn_11 : decode cX8_settleOn 11 = .ok (.getfield 20, 3) := by decide +kernel
theorem dX8_settleOn_14 : decode cX8_settleOn 14 = .ok (.iconst 0, 1) := by decide +kernel
theorem dX8_settleOn_15 : decode cX8_settleOn 15 = .ok (.aload_n 1, 1) := by decide +kernel
theorem dX8_settleOn_16 : decode cX8_settleOn 16 = .ok (.getfield 27, 3) := by decide +kernel
theorem dX8_settleOn_19 : decode cX8_settleOn 19 = .ok (.iastore, 1) := by decide +kernel
theorem dX8_settleOn_20 : decode cX8_settleOn 20 = .ok (.aload_n 0, 1) := by decide +kernel
theorem dX8_settleOn_21 : decode cX8_settleOn 21 = .ok (.getfield 20, 3) := by decide +kernel
theorem dX8_settleOn_24 : decode cX8_settleOn 24 = .ok (.bipush 7, 2) := by decide +kernel
theorem dX8_settleOn_26 : decode cX8_settleOn 26 = .ok (.aload_n 2, 1) := by decide +kernel
theorem dX8_settleOn_27 : decode cX8_settleOn 27 = .ok (.getfield 35, 3) := by decide +kernel
theorem dX8_settleOn_30 : decode cX8_settleOn 30 = .ok (.aload_n 1, 1) := by decide +kernel
theorem dX8_settleOn_31 : decode cX8_settleOn 31 = .ok (.getfield 27, 3) := by decide +kernel
theorem dX8_settleOn_34 : decode cX8_settleOn 34 = .ok (.iaload, 1) := by decide +kernel
theorem dX8_settleOn_35 : decode cX8_settleOn 35 = .ok (.iastore, 1) := by decide +kernel
theorem dX8_settleOn_36 : decode cX8_settleOn 36 = .ok (.iconst 0, 1) := by decide +kernel
theorem dX8_settleOn_37 : decode cX8_settleOn 37 = .ok (.istore 5, 2) := by decide +kernel
theorem dX8_settleOn_39 : decode cX8_settleOn 39 = .ok (.iload 5, 2) := by decide +kernel
theorem dX8_settleOn_41 : decode cX8_settleOn 41 = .ok (.bipush 16, 2) := by decide +kernel
theorem dX8_settleOn_43 : decode cX8_settleOn 43 = .ok (.if_icmp .ge 57, 3) := by decide +kernel
theorem dX8_settleOn_46 : decode cX8_settleOn 46 = .ok (.bipush 16, 2) := by decide +kernel
theorem dX8_settleOn_48 : decode cX8_settleOn 48 = .ok (.iload 4, 2) := by decide +kernel
theorem dX8_settleOn_50 : decode cX8_settleOn 50 = .ok (.imul, 1) := by decide +kernel
theorem dX8_settleOn_51 : decode cX8_settleOn 51 = .ok (.iload 5, 2) := by decide +kernel
theorem dX8_settleOn_53 : decode cX8_settleOn 53 = .ok (.iadd, 1) := by decide +kernel
theorem dX8_settleOn_54 : decode cX8_settleOn 54 = .ok (.istore 6, 2) := by decide +kernel
theorem dX8_settleOn_56 : decode cX8_settleOn 56 = .ok (.aload_n 2, 1) := by decide +kernel
theorem dX8_settleOn_57 : decode cX8_settleOn 57 = .ok (.getfield 74, 3) := by decide +kernel
theorem dX8_settleOn_60 : decode cX8_settleOn 60 = .ok (.iload 4, 2) := by decide +kernel
theorem dX8_settleOn_62 : decode cX8_settleOn 62 = .ok (.iaload, 1) := by decide +kernel
theorem dX8_settleOn_63 : decode cX8_settleOn 63 = .ok (.iload 5, 2) := by decide +kernel
theorem dX8_settleOn_65 : decode cX8_settleOn 65 = .ok (.ishr, 1) := by decide +kernel
theorem dX8_settleOn_66 : decode cX8_settleOn 66 = .ok (.iconst 1, 1) := by decide +kernel
theorem dX8_settleOn_67 : decode cX8_settleOn 67 = .ok (.iand, 1) := by decide +kernel
theorem dX8_settleOn_68 : decode cX8_settleOn 68 = .ok (.iconst 1, 1) := by decide +kernel
theorem dX8_settleOn_69 : decode cX8_settleOn 69 = .ok (.if_icmp .ne 25, 3) := by decide +kernel
theorem dX8_settleOn_72 : decode cX8_settleOn 72 = .ok (.aload_n 0, 1) := by decide +kernel
theorem dX8_settleOn_73 : decode cX8_settleOn 73 = .ok (.aload_n 1, 1) := by decide +kernel
theorem dX8_settleOn_74 : decode cX8_settleOn 74 = .ok (.aload_n 2, 1) := by decide +kernel
theorem dX8_settleOn_75 : decode cX8_settleOn 75 = .ok (.aload_n 3, 1) := by decide +kernel
theorem dX8_settleOn_76 : decode cX8_settleOn 76 = .ok (.iload 6, 2) := by decide +kernel
theorem dX8_settleOn_78 : decode cX8_settleOn 78 = .ok (.invokevirtual 77, 3) := by decide +kernel
theorem dX8_settleOn_81 : decode cX8_settleOn 81 = .ok (.ifCond .eq 13, 3) := by decide +kernel
theorem dX8_settleOn_84 : decode cX8_settleOn 84 = .ok (.aload_n 1, 1) := by decide +kernel
theorem dX8_settleOn_85 : decode cX8_settleOn 85 = .ok (.iload 6, 2) := by decide +kernel
theorem dX8_settleOn_87 : decode cX8_settleOn 87 = .ok (.aload_n 2, 1) := by decide +kernel
theorem dX8_settleOn_88 : decode cX8_settleOn 88 = .ok (.getfield 81, 3) := by decide +kernel
theorem dX8_settleOn_91 : decode cX8_settleOn 91 = .ok (.invokevirtual 84, 3) := by decide +kernel
theorem dX8_settleOn_94 : decode cX8_settleOn 94 = .ok (.iinc 5 1, 3) := by decide +kernel
theorem dX8_settleOn_97 : decode cX8_settleOn 97 = .ok (.goto (-58), 3) := by decide +kernel
theorem dX8_settleOn_100 : decode cX8_settleOn 100 = .ok (.return_, 1) := by decide +kernel
theorem dX8_lawHolds_0 : decode cX8_lawHolds 0 = .ok (.iload 4, 2) := by decide +kernel
theorem dX8_lawHolds_2 : decode cX8_lawHolds 2 = .ok (.bipush 16, 2) := by decide +kernel
theorem dX8_lawHolds_4 : decode cX8_lawHolds 4 = .ok (.idiv, 1) := by decide +kernel
theorem dX8_lawHolds_5 : decode cX8_lawHolds 5 = .ok (.istore 5, 2) := by decide +kernel
theorem dX8_lawHolds_7 : decode cX8_lawHolds 7 = .ok (.aload_n 0, 1) := by decide +kernel
theorem dX8_lawHolds_8 : decode cX8_lawHolds 8 = .ok (.getfield 20, 3) := by decide +kernel
theorem dX8_lawHolds_11 : decode cX8_lawHolds 11 = .ok (.iconst 1, 1) := by decide +kernel
theorem dX8_lawHolds_12 : decode cX8_lawHolds 12 = .ok (.iload 4, 2) := by decide +kernel
theorem dX8_lawHolds_14 : decode cX8_lawHolds 14 = .ok (.iconst 3, 1) := by decide +kernel
theorem dX8_lawHolds_15 : decode cX8_lawHolds 15 = .ok (.iand, 1) := by decide +kernel
theorem dX8_lawHolds_16 : decode cX8_lawHolds 16 = .ok (.iastore, 1) := by decide +kernel
theorem dX8_lawHolds_17 : decode cX8_lawHolds 17 = .ok (.aload_n 0, 1) := by decide +kernel
theorem dX8_lawHolds_18 : decode cX8_lawHolds 18 = .ok (.getfield 20, 3) := by decide +kernel
theorem dX8_lawHolds_21 : decode cX8_lawHolds 21 = .ok (.iconst 2, 1) := by decide +kernel
theorem dX8_lawHolds_22 : decode cX8_lawHolds 22 = .ok (.iload 4, 2) := by decide +kernel
theorem dX8_lawHolds_24 : decode cX8_lawHolds 24 = .ok (.iconst 2, 1) := by decide +kernel
theorem dX8_lawHolds_25 : decode cX8_lawHolds 25 = .ok (.ishr, 1) := by decide +kernel
theorem dX8_lawHolds_26 : decode cX8_lawHolds 26 = .ok (.iconst 3, 1) := by decide +kernel
theorem dX8_lawHolds_27 : decode cX8_lawHolds 27 = .ok (.iand, 1) := by decide +kernel
theorem dX8_lawHolds_28 : decode cX8_lawHolds 28 = .ok (.iastore, 1) := by decide +kernel
theorem dX8_lawHolds_29 : decode cX8_lawHolds 29 = .ok (.aload_n 0, 1) := by decide +kernel
theorem dX8_lawHolds_30 : decode cX8_lawHolds 30 = .ok (.getfield 20, 3) := by decide +kernel
theorem dX8_lawHolds_33 : decode cX8_lawHolds 33 = .ok (.iconst 3, 1) := by decide +kernel
theorem dX8_lawHolds_34 : decode cX8_lawHolds 34 = .ok (.aload_n 2, 1) := by decide +kernel
theorem dX8_lawHolds_35 : decode cX8_lawHolds 35 = .ok (.getfield 88, 3) := by decide +kernel
theorem dX8_lawHolds_38 : decode cX8_lawHolds 38 = .ok (.iload 5, 2) := by decide +kernel
theorem dX8_lawHolds_40 : decode cX8_lawHolds 40 = .ok (.iaload, 1) := by decide +kernel
theorem dX8_lawHolds_41 : decode cX8_lawHolds 41 = .ok (.iastore, 1) := by decide +kernel
theorem dX8_lawHolds_42 : decode cX8_lawHolds 42 = .ok (.aload_n 0, 1) := by decide +kernel
theorem dX8_lawHolds_43 : decode cX8_lawHolds 43 = .ok (.getfield 20, 3) := by decide +kernel
theorem dX8_lawHolds_46 : decode cX8_lawHolds 46 = .ok (.iconst 4, 1) := by decide +kernel
theorem dX8_lawHolds_47 : decode cX8_lawHolds 47 = .ok (.iload 5, 2) := by decide +kernel
theorem dX8_lawHolds_49 : decode cX8_lawHolds 49 = .ok (.iastore, 1) := by decide +kernel
theorem dX8_lawHolds_50 : decode cX8_lawHolds 50 = .ok (.aload_n 0, 1) := by decide +kernel
theorem dX8_lawHolds_51 : decode cX8_lawHolds 51 = .ok (.getfield 20, 3) := by decide +kernel
theorem dX8_lawHolds_54 : decode cX8_lawHolds 54 = .ok (.iconst 5, 1) := by decide +kernel
theorem dX8_lawHolds_55 : decode cX8_lawHolds 55 = .ok (.aload_n 1, 1) := by decide +kernel
theorem dX8_lawHolds_56 : decode cX8_lawHolds 56 = .ok (.getfield 91, 3) := by decide +kernel
theorem dX8_lawHolds_59 : decode cX8_lawHolds 59 = .ok (.iload 4, 2) := by decide +kernel
theorem dX8_lawHolds_61 : decode cX8_lawHolds 61 = .ok (.iaload, 1) := by decide +kernel
theorem dX8_lawHolds_62 : decode cX8_lawHolds 62 = .ok (.iastore, 1) := by decide +kernel
theorem dX8_lawHolds_63 : decode cX8_lawHolds 63 = .ok (.aload_n 0, 1) := by decide +kernel
theorem dX8_lawHolds_64 : decode cX8_lawHolds 64 = .ok (.getfield 20, 3) := by decide +kernel
theorem dX8_lawHolds_67 : decode cX8_lawHolds 67 = .ok (.bipush 6, 2) := by decide +kernel
theorem dX8_lawHolds_69 : decode cX8_lawHolds 69 = .ok (.aload_n 1, 1) := by decide +kernel
theorem dX8_lawHolds_70 : decode cX8_lawHolds 70 = .ok (.iload 4, 2) := by decide +kernel
theorem dX8_lawHolds_72 : decode cX8_lawHolds 72 = .ok (.invokevirtual 64, 3) := by decide +kernel
theorem dX8_lawHolds_75 : decode cX8_lawHolds 75 = .ok (.iastore, 1) := by decide +kernel
theorem dX8_lawHolds_76 : decode cX8_lawHolds 76 = .ok (.aload_n 3, 1) := by decide +kernel
theorem dX8_lawHolds_77 : decode cX8_lawHolds 77 = .ok (.aload_n 0, 1) := by decide +kernel
theorem dX8_lawHolds_78 : decode cX8_lawHolds 78 = .ok (.getfield 20, 3) := by decide +kernel
theorem dX8_lawHolds_81 : decode cX8_lawHolds 81 = .ok (.invokevirtual 94, 3) := by decide +kernel
theorem dX8_lawHolds_84 : decode cX8_lawHolds 84 = .ok (.ifCond .le 7, 3) := by decide +kernel
theorem dX8_lawHolds_87 : decode cX8_lawHolds 87 = .ok (.iconst 1, 1) := by decide +kernel
theorem dX8_lawHolds_88 : decode cX8_lawHolds 88 = .ok (.goto 4, 3) := by decide +kernel
theorem dX8_lawHolds_91 : decode cX8_lawHolds 91 = .ok (.iconst 0, 1) := by decide +kernel
theorem dX8_lawHolds_92 : decode cX8_lawHolds 92 = .ok (.ireturn, 1) := by decide +kernel
theorem dX8_wouldSettle_0 : decode cX8_wouldSettle 0 = .ok (.aload_n 0, 1) := by decide +kernel
theorem dX8_wouldSettle_1 : decode cX8_wouldSettle 1 = .ok (.getfield 20, 3) := by decide +kernel
theorem dX8_wouldSettle_4 : decode cX8_wouldSettle 4 = .ok (.iconst 0, 1) := by decide +kernel
theorem dX8_wouldSettle_5 : decode cX8_wouldSettle 5 = .ok (.aload_n 1, 1) := by decide +kernel
theorem dX8_wouldSettle_6 : decode cX8_wouldSettle 6 = .ok (.getfield 27, 3) := by decide +kernel
theorem dX8_wouldSettle_9 : decode cX8_wouldSettle 9 = .ok (.iconst 1, 1) := by decide +kernel
theorem dX8_wouldSettle_10 : decode cX8_wouldSettle 10 = .ok (.iadd, 1) := by decide +kernel
theorem dX8_wouldSettle_11 : decode cX8_wouldSettle 11 = .ok (.iastore, 1) := by decide +kernel
theorem dX8_wouldSettle_12 : decode cX8_wouldSettle 12 = .ok (.aload_n 0, 1) := by decide +kernel
theorem dX8_wouldSettle_13 : decode cX8_wouldSettle 13 = .ok (.getfield 20, 3) := by decide +kernel
theorem dX8_wouldSettle_16 : decode cX8_wouldSettle 16 = .ok (.bipush 7, 2) := by decide +kernel
theorem dX8_wouldSettle_18 : decode cX8_wouldSettle 18 = .ok (.iconst 0, 1) := by decide +kernel
theorem dX8_wouldSettle_19 : decode cX8_wouldSettle 19 = .ok (.iastore, 1) := by decide +kernel
theorem dX8_wouldSettle_20 : decode cX8_wouldSettle 20 = .ok (.aload_n 0, 1) := by decide +kernel
theorem dX8_wouldSettle_21 : decode cX8_wouldSettle 21 = .ok (.aload_n 1, 1) := by decide +kernel
theorem dX8_wouldSettle_22 : decode cX8_wouldSettle 22 = .ok (.aload_n 2, 1) := by decide +kernel
theorem dX8_wouldSettle_23 : decode cX8_wouldSettle 23 = .ok (.aload_n 3, 1) := by decide +kernel
theorem dX8_wouldSettle_24 : decode cX8_wouldSettle 24 = .ok (.iload 4, 2) := by decide +kernel
theorem dX8_wouldSettle_26 : decode cX8_wouldSettle 26 = .ok (.invokevirtual 77, 3) := by decide +kernel
theorem dX8_wouldSettle_29 : decode cX8_wouldSettle 29 = .ok (.ireturn, 1) := by decide +kernel
theorem dX8_foresee_0 : decode cX8_foresee 0 = .ok (.aload_n 0, 1) := by decide +kernel
theorem dX8_foresee_1 : decode cX8_foresee 1 = .ok (.getfield 12, 3) := by decide +kernel
theorem dX8_foresee_4 : decode cX8_foresee 4 = .ok (.aload_n 1, 1) := by decide +kernel
theorem dX8_foresee_5 : decode cX8_foresee 5 = .ok (.invokevirtual 98, 3) := by decide +kernel
theorem dX8_foresee_8 : decode cX8_foresee 8 = .ok (.iconst 1, 1) := by decide +kernel
theorem dX8_foresee_9 : decode cX8_foresee 9 = .ok (.istore 5, 2) := by decide +kernel
theorem dX8_foresee_11 : decode cX8_foresee 11 = .ok (.iload 5, 2) := by decide +kernel
theorem dX8_foresee_13 : decode cX8_foresee 13 = .ok (.iload 4, 2) := by decide +kernel
theorem dX8_foresee_15 : decode cX8_foresee 15 = .ok (.if_icmp .gt 143, 3) := by decide +kernel
theorem dX8_foresee_18 : decode cX8_foresee 18 = .ok (.aload_n 0, 1) := by decide +kernel
theorem dX8_foresee_19 : decode cX8_foresee 19 = .ok (.getfield 12, 3) := by decide +kernel
theorem dX8_foresee_22 : decode cX8_foresee 22 = .ok (.getfield 27, 3) := by decide +kernel
theorem dX8_foresee_25 : decode cX8_foresee 25 = .ok (.sipush 200, 3) := by decide +kernel
theorem dX8_foresee_28 : decode cX8_foresee 28 = .ok (.if_icmp .ge 7, 3) := by decide +kernel
theorem dX8_foresee_31 : decode cX8_foresee 31 = .ok (.iconst 1, 1) := by decide +kernel
theorem dX8_foresee_32 : decode cX8_foresee 32 = .ok (.goto 4, 3) := by decide +kernel
theorem dX8_foresee_35 : decode cX8_foresee 35 = .ok (.iconst 0, 1) := by decide +kernel
theorem dX8_foresee_36 : decode cX8_foresee 36 = .ok (.istore 6, 2) := by decide +kernel
theorem dX8_foresee_38 : decode cX8_foresee 38 = .ok (.aload_n 0, 1) := by decide +kernel
theorem dX8_foresee_39 : decode cX8_foresee 39 = .ok (.getfield 12, 3) := by decide +kernel
theorem dX8_foresee_42 : decode cX8_foresee 42 = .ok (.dup, 1) := by decide +kernel
theorem dX8_foresee_43 : decode cX8_foresee 43 = .ok (.getfield 27, 3) := by decide +kernel
theorem dX8_foresee_46 : decode cX8_foresee 46 = .ok (.iload 6, 2) := by decide +kernel
theorem dX8_foresee_48 : decode cX8_foresee 48 = .ok (.ifCond .eq 7, 3) := by decide +kernel
theorem dX8_foresee_51 : decode cX8_foresee 51 = .ok (.iconst 1, 1) := by decide +kernel
theorem dX8_foresee_52 : decode cX8_foresee 52 = .ok (.goto 4, 3) := by decide +kernel
theorem dX8_foresee_55 : decode cX8_foresee 55 = .ok (.iconst 0, 1) := by decide +kernel
theorem dX8_foresee_56 : decode cX8_foresee 56 = .ok (.iadd, 1) := by decide +kernel
theorem dX8_foresee_57 : decode cX8_foresee 57 = .ok (.putfield 27, 3) := by decide +kernel
theorem dX8_foresee_60 : decode cX8_foresee 60 = .ok (.iconst 0, 1) := by decide +kernel
theorem dX8_foresee_61 : decode cX8_foresee 61 = .ok (.istore 7, 2) := by decide +kernel
theorem dX8_foresee_63 : decode cX8_foresee 63 = .ok (.iload 7, 2) := by decide +kernel
theorem dX8_foresee_65 : decode cX8_foresee 65 = .ok (.aload_n 2, 1) := by decide +kernel
theorem dX8_foresee_66 : decode cX8_foresee 66 = .ok (.getfield 40, 3) := by decide +kernel
theorem dX8_foresee_69 : decode cX8_foresee 69 = .ok (.if_icmp .ge 83, 3) := by decide +kernel
theorem dX8_foresee_72 : decode cX8_foresee 72 = .ok (.iconst 0, 1) := by decide +kernel
theorem dX8_foresee_73 : decode cX8_foresee 73 = .ok (.istore 8, 2) := by decide +kernel
theorem dX8_foresee_75 : decode cX8_foresee 75 = .ok (.iload 6, 2) := by decide +kernel
theorem dX8_foresee_77 : decode cX8_foresee 77 = .ok (.ifCond .eq 38, 3) := by decide +kernel
theorem dX8_foresee_80 : decode cX8_foresee 80 = .ok (.aload_n 0, 1) := by decide +kernel
theorem dX8_foresee_81 : decode cX8_foresee 81 = .ok (.getfield 12, 3) := by decide +kernel
theorem dX8_foresee_84 : decode cX8_foresee 84 = .ok (.iload 7, 2) := by decide +kernel
theorem dX8_foresee_86 : decode cX8_foresee 86 = .ok (.aload_n 2, 1) := by decide +kernel
theorem dX8_foresee_87 : decode cX8_foresee 87 = .ok (.getfield 35, 3) := by decide +kernel
theorem dX8_foresee_90 : decode cX8_foresee 90 = .ok (.aload_n 0, 1) := by decide +kernel
theorem dX8_foresee_91 : decode cX8_foresee 91 = .ok (.getfield 12, 3) := by decide +kernel
theorem dX8_foresee_94 : decode cX8_foresee 94 = .ok (.getfield 27, 3) := by decide +kernel
theorem dX8_foresee_97 : decode cX8_foresee 97 = .ok (.iaload, 1) := by decide +kernel
theorem dX8_foresee_98 : decode cX8_foresee 98 = .ok (.invokevirtual 46, 3) := by decide +kernel
theorem dX8_foresee_101 : decode cX8_foresee 101 = .ok (.istore 8, 2) := by decide +kernel
theorem dX8_foresee_103 : decode cX8_foresee 103 = .ok (.aload_n 0, 1) := by decide +kernel
theorem dX8_foresee_104 : decode cX8_foresee 104 = .ok (.aload_n 0, 1) := by decide +kernel
theorem dX8_foresee_105 : decode cX8_foresee 105 = .ok (.getfield 12, 3) := by decide +kernel
theorem dX8_foresee_108 : decode cX8_foresee 108 = .ok (.aload_n 2, 1) := by decide +kernel
theorem dX8_foresee_109 : decode cX8_foresee 109 = .ok (.aload_n 3, 1) := by decide +kernel
theorem dX8_foresee_110 : decode cX8_foresee 110 = .ok (.iload 7, 2) := by decide +kernel
theorem dX8_foresee_112 : decode cX8_foresee 112 = .ok (.invokevirtual 50, 3) := by decide +kernel
theorem dX8_foresee_115 : decode cX8_foresee 115 = .ok (.aload_n 0, 1) := by decide +kernel
theorem dX8_foresee_116 : decode cX8_foresee 116 = .ok (.getfield 24, 3) := by decide +kernel
theorem dX8_foresee_119 : decode cX8_foresee 119 = .ok (.bipush 61, 2) := by decide +kernel
theorem dX8_foresee_121 : decode cX8_foresee 121 = .ok (.iload 7, 2) := by decide +kernel
theorem dX8_foresee_123 : decode cX8_foresee 123 = .ok (.imul, 1) := by decide +kernel
theorem dX8_foresee_124 : decode cX8_foresee 124 = .ok (.iload 5, 2) := by decide +kernel
theorem dX8_foresee_126 : decode cX8_foresee 126 = .ok (.iadd, 1) := by decide +kernel
theorem dX8_foresee_127 : decode cX8_foresee 127 = .ok (.aload_n 0, 1) := by decide +kernel
theorem dX8_foresee_128 : decode cX8_foresee 128 = .ok (.getfield 24, 3) := by decide +kernel
theorem dX8_foresee_131 : decode cX8_foresee 131 = .ok (.bipush 61, 2) := by decide +kernel
theorem dX8_foresee_133 : decode cX8_foresee 133 = .ok (.iload 7, 2) := by decide +kernel
theorem dX8_foresee_135 : decode cX8_foresee 135 = .ok (.imul, 1) := by decide +kernel
theorem dX8_foresee_136 : decode cX8_foresee 136 = .ok (.iload 5, 2) := by decide +kernel
theorem dX8_foresee_138 : decode cX8_foresee 138 = .ok (.iadd, 1) := by decide +kernel
theorem dX8_foresee_139 : decode cX8_foresee 139 = .ok (.iconst 1, 1) := by decide +kernel
theorem dX8_foresee_140 : decode cX8_foresee 140 = .ok (.isub, 1) := by decide +kernel
theorem dX8_foresee_141 : decode cX8_foresee 141 = .ok (.iaload, 1) := by decide +kernel
theorem dX8_foresee_142 : decode cX8_foresee 142 = .ok (.iload 8, 2) := by decide +kernel
theorem dX8_foresee_144 : decode cX8_foresee 144 = .ok (.iadd, 1) := by decide +kernel
theorem dX8_foresee_145 : decode cX8_foresee 145 = .ok (.iastore, 1) := by decide +kernel
theorem dX8_foresee_146 : decode cX8_foresee 146 = .ok (.iinc 7 1, 3) := by decide +kernel
theorem dX8_foresee_149 : decode cX8_foresee 149 = .ok (.goto (-86), 3) := by decide +kernel
theorem dX8_foresee_152 : decode cX8_foresee 152 = .ok (.iinc 5 1, 3) := by decide +kernel
theorem dX8_foresee_155 : decode cX8_foresee 155 = .ok (.goto (-144), 3) := by decide +kernel
theorem dX8_foresee_158 : decode cX8_foresee 158 = .ok (.return_, 1) := by decide +kernel
theorem dX8_drawDecade_0 : decode cX8_drawDecade 0 = .ok (.iload_n 1, 1) := by decide +kernel
theorem dX8_drawDecade_1 : decode cX8_drawDecade 1 = .ok (.istore 6, 2) := by decide +kernel
theorem dX8_drawDecade_3 : decode cX8_drawDecade 3 = .ok (.aload_n 0, 1) := by decide +kernel
theorem dX8_drawDecade_4 : decode cX8_drawDecade 4 = .ok (.iload 5, 2) := by decide +kernel
theorem dX8_drawDecade_6 : decode cX8_drawDecade 6 = .ok (.putfield 102, 3) := by decide +kernel
theorem dX8_drawDecade_9 : decode cX8_drawDecade 9 = .ok (.aload_n 0, 1) := by decide +kernel
theorem dX8_drawDecade_10 : decode cX8_drawDecade 10 = .ok (.iconst 0, 1) := by decide +kernel
theorem dX8_drawDecade_11 : decode cX8_drawDecade 11 = .ok (.putfield 105, 3) := by decide +kernel
theorem dX8_drawDecade_14 : decode cX8_drawDecade 14 = .ok (.iconst 1, 1) := by decide +kernel
theorem dX8_drawDecade_15 : decode cX8_drawDecade 15 = .ok (.istore 7, 2) := by decide +kernel
theorem dX8_drawDecade_17 : decode cX8_drawDecade 17 = .ok (.iload 7, 2) := by decide +kernel
theorem dX8_drawDecade_19 : decode cX8_drawDecade 19 = .ok (.iload_n 3, 1) := by decide +kernel
theorem dX8_drawDecade_20 : decode cX8_drawDecade 20 = .ok (.if_icmp .gt 101, 3) := by decide +kernel
theorem dX8_drawDecade_23 : decode cX8_drawDecade 23 = .ok (.iconst 0, 1) := by decide +kernel
theorem dX8_drawDecade_24 : decode cX8_drawDecade 24 = .ok (.istore 8, 2) := by decide +kernel
theorem dX8_drawDecade_26 : decode cX8_drawDecade 26 = .ok (.iload 8, 2) := by decide +kernel
theorem dX8_drawDecade_28 : decode cX8_drawDecade 28 = .ok (.iload 4, 2) := by decide +kernel
theorem dX8_drawDecade_30 : decode cX8_drawDecade 30 = .ok (.if_icmp .ge 85, 3) := by decide +kernel
theorem dX8_drawDecade_33 : decode cX8_drawDecade 33 = .ok (.aload_n 0, 1) := by decide +kernel
theorem dX8_drawDecade_34 : decode cX8_drawDecade 34 = .ok (.getfield 102, 3) := by decide +kernel
theorem dX8_drawDecade_37 : decode cX8_drawDecade 37 = .ok (.iload 8, 2) := by decide +kernel
theorem dX8_drawDecade_39 : decode cX8_drawDecade 39 = .ok (.ishr, 1) := by decide +kernel
theorem dX8_drawDecade_40 : decode cX8_drawDecade 40 = .ok (.iconst 1, 1) := by decide +kernel
theorem dX8_drawDecade_41 : decode cX8_drawDecade 41 = .ok (.iand, 1) := by decide +kernel
theorem dX8_drawDecade_42 : decode cX8_drawDecade 42 = .ok (.ifCond .ne 67, 3) := by decide +kernel
theorem dX8_drawDecade_45 : decode cX8_drawDecade 45 = .ok (.iload 6, 2) := by decide +kernel
theorem dX8_drawDecade_47 : decode cX8_drawDecade 47 = .ok (.ldc 108, 2) := by decide +kernel
theorem dX8_drawDecade_49 : decode cX8_drawDecade 49 = .ok (.imul, 1) := by decide +kernel
theorem dX8_drawDecade_50 : decode cX8_drawDecade 50 = .ok (.sipush 12345, 3) := by decide +kernel
theorem dX8_drawDecade_53 : decode cX8_drawDecade 53 = .ok (.iadd, 1) := by decide +kernel
theorem dX8_drawDecade_54 : decode cX8_drawDecade 54 = .ok (.istore 6, 2) := by decide +kernel
theorem dX8_drawDecade_56 : decode cX8_drawDecade 56 = .ok (.iload 6, 2) := by decide +kernel
theorem dX8_drawDecade_58 : decode cX8_drawDecade 58 = .ok (.bipush 16, 2) := by decide +kernel
theorem dX8_drawDecade_60 : decode cX8_drawDecade 60 = .ok (.ishr, 1) := by decide +kernel
theorem dX8_drawDecade_61 : decode cX8_drawDecade 61 = .ok (.sipush 32767, 3) := by decide +kernel
theorem dX8_drawDecade_64 : decode cX8_drawDecade 64 = .ok (.iand, 1) := by decide +kernel
theorem dX8_drawDecade_65 : decode cX8_drawDecade 65 = .ok (.bipush 16, 2) := by decide +kernel
theorem dX8_drawDecade_67 : decode cX8_drawDecade 67 = .ok (.irem, 1) := by decide +kernel
theorem dX8_drawDecade_68 : decode cX8_drawDecade 68 = .ok (.iload_n 2, 1) := by decide +kernel
theorem dX8_drawDecade_69 : decode cX8_drawDecade 69 = .ok (.if_icmp .ge 40, 3) := by decide +kernel
theorem dX8_drawDecade_72 : decode cX8_drawDecade 72 = .ok (.aload_n 0, 1) := by decide +kernel
theorem dX8_drawDecade_73 : decode cX8_drawDecade 73 = .ok (.dup, 1) := by decide +kernel
theorem dX8_drawDecade_74 : decode cX8_drawDecade 74 = .ok (.getfield 102, 3) := by decide +kernel
theorem dX8_drawDecade_77 : decode cX8_drawDecade 77 = .ok (.iconst 1, 1) := by decide +kernel
theorem dX8_drawDecade_78 : decode cX8_drawDecade 78 = .ok (.iload 8, 2) := by decide +kernel
theorem dX8_drawDecade_80 : decode cX8_drawDecade 80 = .ok (.ishl, 1) := by decide +kernel
theorem dX8_drawDecade_81 : decode cX8_drawDecade 81 = .ok (.ior, 1) := by decide +kernel
theorem dX8_drawDecade_82 : decode cX8_drawDecade 82 = .ok (.putfield 102, 3) := by decide +kernel
theorem dX8_drawDecade_85 : decode cX8_drawDecade 85 = .ok (.aload_n 0, 1) := by decide +kernel
theorem dX8_drawDecade_86 : decode cX8_drawDecade 86 = .ok (.dup, 1) := by decide +kernel
theorem dX8_drawDecade_87 : decode cX8_drawDecade 87 = .ok (.getfield 105, 3) := by decide +kernel
theorem dX8_drawDecade_90 : decode cX8_drawDecade 90 = .ok (.aload_n 0, 1) := by decide +kernel
theorem dX8_drawDecade_91 : decode cX8_drawDecade 91 = .ok (.getfield 24, 3) := by decide +kernel
theorem dX8_drawDecade_94 : decode cX8_drawDecade 94 = .ok (.bipush 61, 2) := by decide +kernel
theorem dX8_drawDecade_96 : decode cX8_drawDecade 96 = .ok (.iload 8, 2) := by decide +kernel
theorem dX8_drawDecade_98 : decode cX8_drawDecade 98 = .ok (.imul, 1) := by decide +kernel
theorem dX8_drawDecade_99 : decode cX8_drawDecade 99 = .ok (.iload 7, 2) := by decide +kernel
theorem dX8_drawDecade_101 : decode cX8_drawDecade 101 = .ok (.iadd, 1) := by decide +kernel
theorem dX8_drawDecade_102 : decode cX8_drawDecade 102 = .ok (.iconst 1, 1) := by decide +kernel
theorem dX8_drawDecade_103 : decode cX8_drawDecade 103 = .ok (.isub, 1) := by decide +kernel
theorem dX8_drawDecade_104 : decode cX8_drawDecade 104 = .ok (.iaload, 1) := by decide +kernel
theorem dX8_drawDecade_105 : decode cX8_drawDecade 105 = .ok (.iadd, 1) := by decide +kernel
theorem dX8_drawDecade_106 : decode cX8_drawDecade 106 = .ok (.putfield 105, 3) := by decide +kernel
theorem dX8_drawDecade_109 : decode cX8_drawDecade 109 = .ok (.iinc 8 1, 3) := by decide +kernel
theorem dX8_drawDecade_112 : decode cX8_drawDecade 112 = .ok (.goto (-86), 3) := by decide +kernel
theorem dX8_drawDecade_115 : decode cX8_drawDecade 115 = .ok (.iinc 7 1, 3) := by decide +kernel
theorem dX8_drawDecade_118 : decode cX8_drawDecade 118 = .ok (.goto (-101), 3) := by decide +kernel
theorem dX8_drawDecade_121 : decode cX8_drawDecade 121 = .ok (.aload_n 0, 1) := by decide +kernel
theorem dX8_drawDecade_122 : decode cX8_drawDecade 122 = .ok (.iconst 0, 1) := by decide +kernel
theorem dX8_drawDecade_123 : decode cX8_drawDecade 123 = .ok (.putfield 109, 3) := by decide +kernel
theorem dX8_drawDecade_126 : decode cX8_drawDecade 126 = .ok (.iconst 0, 1) := by decide +kernel
theorem dX8_drawDecade_127 : decode cX8_drawDecade 127 = .ok (.istore 7, 2) := by decide +kernel
theorem dX8_drawDecade_129 : decode cX8_drawDecade 129 = .ok (.iload 7, 2) := by decide +kernel
theorem dX8_drawDecade_131 : decode cX8_drawDecade 131 = .ok (.iload 4, 2) := by decide +kernel
theorem dX8_drawDecade_133 : decode cX8_drawDecade 133 = .ok (.if_icmp .ge 60, 3) := by decide +kernel
theorem dX8_drawDecade_136 : decode cX8_drawDecade 136 = .ok (.aload_n 0, 1) := by decide +kernel
theorem dX8_drawDecade_137 : decode cX8_drawDecade 137 = .ok (.getfield 102, 3) := by decide +kernel
theorem dX8_drawDecade_140 : decode cX8_drawDecade 140 = .ok (.iload 7, 2) := by decide +kernel
theorem dX8_drawDecade_142 : decode cX8_drawDecade 142 = .ok (.ishr, 1) := by decide +kernel
theorem dX8_drawDecade_143 : decode cX8_drawDecade 143 = .ok (.iconst 1, 1) := by decide +kernel
theorem dX8_drawDecade_144 : decode cX8_drawDecade 144 = .ok (.iand, 1) := by decide +kernel
theorem dX8_drawDecade_145 : decode cX8_drawDecade 145 = .ok (.ifCond .ne 42, 3) := by decide +kernel
theorem dX8_drawDecade_148 : decode cX8_drawDecade 148 = .ok (.aload_n 0, 1) := by decide +kernel
theorem dX8_drawDecade_149 : decode cX8_drawDecade 149 = .ok (.dup, 1) := by decide +kernel
theorem dX8_drawDecade_150 : decode cX8_drawDecade 150 = .ok (.getfield 109, 3) := by decide +kernel
theorem dX8_drawDecade_153 : decode cX8_drawDecade 153 = .ok (.aload_n 0, 1) := by decide +kernel
theorem dX8_drawDecade_154 : decode cX8_drawDecade 154 = .ok (.getfield 12, 3) := by decide +kernel
theorem dX8_drawDecade_157 : decode cX8_drawDecade 157 = .ok (.iload 7, 2) := by decide +kernel
theorem dX8_drawDecade_159 : decode cX8_drawDecade 159 = .ok (.invokevirtual 112, 3) := by decide +kernel
theorem dX8_drawDecade_162 : decode cX8_drawDecade 162 = .ok (.iadd, 1) := by decide +kernel
theorem dX8_drawDecade_163 : decode cX8_drawDecade 163 = .ok (.putfield 109, 3) := by decide +kernel
theorem dX8_drawDecade_166 : decode cX8_drawDecade 166 = .ok (.aload_n 0, 1) := by decide +kernel
theorem dX8_drawDecade_167 : decode cX8_drawDecade 167 = .ok (.dup, 1) := by decide +kernel
theorem dX8_drawDecade_168 : decode cX8_drawDecade 168 = .ok (.getfield 105, 3) := by decide +kernel
theorem dX8_drawDecade_171 : decode cX8_drawDecade 171 = .ok (.aload_n 0, 1) := by decide +kernel
theorem dX8_drawDecade_172 : decode cX8_drawDecade 172 = .ok (.getfield 24, 3) := by decide +kernel
theorem dX8_drawDecade_175 : decode cX8_drawDecade 175 = .ok (.bipush 61, 2) := by decide +kernel
theorem dX8_drawDecade_177 : decode cX8_drawDecade 177 = .ok (.iload 7, 2) := by decide +kernel
theorem dX8_drawDecade_179 : decode cX8_drawDecade 179 = .ok (.imul, 1) := by decide +kernel
theorem dX8_drawDecade_180 : decode cX8_drawDecade 180 = .ok (.iload_n 3, 1) := by decide +kernel
theorem dX8_drawDecade_181 : decode cX8_drawDecade 181 = .ok (.iadd, 1) := by decide +kernel
theorem dX8_drawDecade_182 : decode cX8_drawDecade 182 = .ok (.iaload, 1) := by decide +kernel
theorem dX8_drawDecade_183 : decode cX8_drawDecade 183 = .ok (.iadd, 1) := by decide +kernel
theorem dX8_drawDecade_184 : decode cX8_drawDecade 184 = .ok (.putfield 105, 3) := by decide +kernel
theorem dX8_drawDecade_187 : decode cX8_drawDecade 187 = .ok (.iinc 7 1, 3) := by decide +kernel
theorem dX8_drawDecade_190 : decode cX8_drawDecade 190 = .ok (.goto (-61), 3) := by decide +kernel
theorem dX8_drawDecade_193 : decode cX8_drawDecade 193 = .ok (.return_, 1) := by decide +kernel
theorem dX9_init_0 : decode cX9_init 0 = .ok (.aload_n 0, 1) := by decide +kernel
theorem dX9_init_1 : decode cX9_init 1 = .ok (.invokespecial 3, 3) := by decide +kernel
theorem dX9_init_4 : decode cX9_init 4 = .ok (.aload_n 0, 1) := by decide +kernel
theorem dX9_init_5 : decode cX9_init 5 = .ok (.bipush 50, 2) := by decide +kernel
theorem dX9_init_7 : decode cX9_init 7 = .ok (.newarray .int, 2) := by decide +kernel
theorem dX9_init_9 : decode cX9_init 9 = .ok (.putfield 11, 3) := by decide +kernel
theorem dX9_init_12 : decode cX9_init 12 = .ok (.aload_n 0, 1) := by decide +kernel
theorem dX9_init_13 : decode cX9_init 13 = .ok (.bipush 50, 2) := by decide +kernel
theorem dX9_init_15 : decode cX9_init 15 = .ok (.newarray .int, 2) := by decide +kernel
theorem dX9_init_17 : decode cX9_init 17 = .ok (.putfield 15, 3) := by decide +kernel
theorem dX9_init_20 : decode cX9_init 20 = .ok (.aload_n 0, 1) := by decide +kernel
theorem dX9_init_21 : decode cX9_init 21 = .ok (.bipush 50, 2) := by decide +kernel
theorem dX9_init_23 : decode cX9_init 23 = .ok (.newarray .int, 2) := by decide +kernel
theorem dX9_init_25 : decode cX9_init 25 = .ok (.putfield 18, 3) := by decide +kernel
theorem dX9_init_28 : decode cX9_init 28 = .ok (.aload_n 0, 1) := by decide +kernel
theorem dX9_init_29 : decode cX9_init 29 = .ok (.bipush 50, 2) := by decide +kernel
theorem dX9_init_31 : decode cX9_init 31 = .ok (.newarray .int, 2) := by decide +kernel
theorem dX9_init_33 : decode cX9_init 33 = .ok (.putfield 21, 3) := by decide +kernel
theorem dX9_init_36 : decode cX9_init 36 = .ok (.aload_n 0, 1) := by decide +kernel
theorem dX9_init_37 : decode cX9_init 37 = .ok (.bipush 50, 2) := by decide +kernel
theorem dX9_init_39 : decode cX9_init 39 = .ok (.newarray .int, 2) := by decide +kernel
theorem dX9_init_41 : decode cX9_init 41 = .ok (.putfield 24, 3) := by decide +kernel
theorem dX9_init_44 : decode cX9_init 44 = .ok (.aload_n 0, 1) := by decide +kernel
theorem dX9_init_45 : decode cX9_init 45 = .ok (.bipush 50, 2) := by decide +kernel
theorem dX9_init_47 : decode cX9_init 47 = .ok (.newarray .int, 2) := by decide +kernel
theorem dX9_init_49 : decode cX9_init 49 = .ok (.putfield 27, 3) := by decide +kernel
theorem dX9_init_52 : decode cX9_init 52 = .ok (.aload_n 0, 1) := by decide +kernel
theorem dX9_init_53 : decode cX9_init 53 = .ok (.bipush 50, 2) := by decide +kernel
theorem dX9_init_55 : decode cX9_init 55 = .ok (.newarray .int, 2) := by decide +kernel
theorem dX9_init_57 : decode cX9_init 57 = .ok (.putfield 30, 3) := by decide +kernel
theorem dX9_init_60 : decode cX9_init 60 = .ok (.aload_n 0, 1) := by decide +kernel
theorem dX9_init_61 : decode cX9_init 61 = .ok (.aload_n 1, 1) := by decide +kernel
theorem dX9_init_62 : decode cX9_init 62 = .ok (.putfield 33, 3) := by decide +kernel
theorem dX9_init_65 : decode cX9_init 65 = .ok (.aload_n 0, 1) := by decide +kernel
theorem dX9_init_66 : decode cX9_init 66 = .ok (.aload_n 2, 1) := by decide +kernel
theorem dX9_init_67 : decode cX9_init 67 = .ok (.putfield 37, 3) := by decide +kernel
theorem dX9_init_70 : decode cX9_init 70 = .ok (.return_, 1) := by decide +kernel
theorem dX9_read_0 : decode cX9_read 0 = .ok (.aload_n 0, 1) := by decide +kernel
theorem dX9_read_1 : decode cX9_read 1 = .ok (.iconst 0, 1) := by decide +kernel
theorem dX9_read_2 : decode cX9_read 2 = .ok (.putfield 41, 3) := by decide +kernel
theorem dX9_read_5 : decode cX9_read 5 = .ok (.aload_n 0, 1) := by decide +kernel
theorem dX9_read_6 : decode cX9_read 6 = .ok (.aload_n 1, 1) := by decide +kernel
theorem dX9_read_7 : decode cX9_read 7 = .ok (.aload_n 2, 1) := by decide +kernel
theorem dX9_read_8 : decode cX9_read 8 = .ok (.iconst 0, 1) := by decide +kernel
theorem dX9_read_9 : decode cX9_read 9 = .ok (.invokevirtual 45, 3) := by decide +kernel
theorem dX9_read_12 : decode cX9_read 12 = .ok (.aload_n 1, 1) := by decide +kernel
theorem dX9_read_13 : decode cX9_read 13 = .ok (.invokevirtual 49, 3) := by decide +kernel
theorem dX9_read_16 : decode cX9_read 16 = .ok (.ireturn, 1) := by decide +kernel
theorem dX9_readSteps_0 : decode cX9_readSteps 0 = .ok (.iconst 0, 1) := by decide +kernel
theorem dX9_readSteps_1 : decode cX9_readSteps 1 = .ok (.istore 4, 2) := by decide +kernel
theorem dX9_readSteps_3 : decode cX9_readSteps 3 = .ok (.iload 4, 2) := by decide +kernel
theorem dX9_readSteps_5 : decode cX9_readSteps 5 = .ok (.bipush 50, 2) := by decide +kernel
theorem dX9_readSteps_7 : decode cX9_readSteps 7 = .ok (.if_icmp .ge 30, 3) := by decide +kernel
theorem dX9_readSteps_10 : decode cX9_readSteps 10 = .ok (.aload_n 1, 1) := by decide +kernel
theorem dX9_readSteps_11 : decode cX9_readSteps 11 = .ok (.getfield 55, 3) := by decide +kernel
theorem dX9_readSteps_14 : decode cX9_readSteps 14 = .ok (.iconst 2, 1) := by decide +kernel
theorem dX9_readSteps_15 : decode cX9_readSteps 15 = .ok (.if_icmp .ne 22, 3) := by decide +kernel
theorem dX9_readSteps_18 : decode cX9_readSteps 18 = .ok (.aload_n 0, 1) := by decide +kernel
theorem dX9_readSteps_19 : decode cX9_readSteps 19 = .ok (.aload_n 1, 1) := by decide +kernel
theorem dX9_readSteps_20 : decode cX9_readSteps 20 = .ok (.aload_n 2, 1) := by decide +kernel
theorem dX9_readSteps_21 : decode cX9_readSteps 21 = .ok (.iload_n 3, 1) := by decide +kernel
theorem dX9_readSteps_22 : decode cX9_readSteps 22 = .ok (.invokevirtual 57, 3) := by decide +kernel
theorem dX9_readSteps_25 : decode cX9_readSteps 25 = .ok (.aload_n 1, 1) := by decide +kernel
theorem dX9_readSteps_26 : decode cX9_readSteps 26 = .ok (.bipush 59, 2) := by decide +kernel
theorem dX9_readSteps_28 : decode cX9_readSteps 28 = .ok (.invokevirtual 60, 3) := by decide +kernel
theorem dX9_readSteps_31 : decode cX9_readSteps 31 = .ok (.iinc 4 1, 3) := by decide +kernel
theorem dX9_readSteps_34 : decode cX9_readSteps 34 = .ok (.goto (-31), 3) := by decide +kernel
theorem dX9_readSteps_37 : decode cX9_readSteps 37 = .ok (.return_, 1) := by decide +kernel
theorem dX9_readStep_0 : decode cX9_readStep 0 = .ok (.aload_n 1, 1) := by decide +kernel
theorem dX9_readStep_1 : decode cX9_readStep 1 = .ok (.invokestatic 64, 3) := by decide +kernel
theorem dX9_readStep_4 : decode cX9_readStep 4 = .ok (.istore 4, 2) := by decide +kernel
theorem dX9_readStep_6 : decode cX9_readStep 6 = .ok (.iload 4, 2) := by decide +kernel
theorem dX9_readStep_8 : decode cX9_readStep 8 = .ok (.iconst (-1), 1) := by decide +kernel
theorem dX9_readStep_9 : decode cX9_readStep 9 = .ok (.if_icmp .eq 12, 3) := by decide +kernel
theorem dX9_readStep_12 : decode cX9_readStep 12 = .ok (.aload_n 0, 1) := by decide +kernel
theorem dX9_readStep_13 : decode cX9_readStep 13 = .ok (.getfield 41, 3) := by decide +kernel
theorem dX9_readStep_16 : decode cX9_readStep 16 = .ok (.bipush 50, 2) := by decide +kernel
theorem dX9_readStep_18 : decode cX9_readStep 18 = .ok (.if_icmp .lt 9, 3) := by decide +kernel
theorem dX9_readStep_21 : decode cX9_readStep 21 = .ok (.aload_n 1, 1) := by decide +kernel
theorem dX9_readStep_22 : decode cX9_readStep 22 = .ok (.iconst 1, 1) := by decide +kernel
theorem dX9_readStep_23 : decode cX9_readStep 23 = .ok (.invokevirtual 68, 3) := by decide +kernel
theorem dX9_readStep_26 : decode cX9_readStep 26 = .ok (.return_, 1) := by decide +kernel
theorem dX9_readStep_27 : decode cX9_readStep 27 = .ok (.iload 4, 2) := by decide +kernel
theorem dX9_readStep_29 : decode cX9_readStep 29 = .ok (.bipush 6, 2) := by decide +kernel
theorem dX9_readStep_31 : decode cX9_readStep 31 = .ok (.if_icmp .ne 15, 3) := by decide +kernel
theorem dX9_readStep_34 : decode cX9_readStep 34 = .ok (.iload_n 3, 1) := by decide +kernel
theorem dX9_readStep_35 : decode cX9_readStep 35 = .ok (.bipush 6, 2) := by decide +kernel
theorem dX9_readStep_37 : decode cX9_readStep 37 = .ok (.if_icmp .lt 9, 3) := by decide +kernel
theorem dX9_readStep_40 : decode cX9_readStep 40 = .ok (.aload_n 1, 1) := by decide +kernel
theorem dX9_readStep_41 : decode cX9_readStep 41 = .ok (.iconst 3, 1) := by decide +kernel
theorem dX9_readStep_42 : decode cX9_readStep 42 = .ok (.invokevirtual 68, 3) := by decide +kernel
theorem dX9_readStep_45 : decode cX9_readStep 45 = .ok (.return_, 1) := by decide +kernel
theorem dX9_readStep_46 : decode cX9_readStep 46 = .ok (.aload_n 0, 1) := by decide +kernel
theorem dX9_readStep_47 : decode cX9_readStep 47 = .ok (.getfield 41, 3) := by decide +kernel
theorem dX9_readStep_50 : decode cX9_readStep 50 = .ok (.istore 5, 2) := by decide +kernel
theorem dX9_readStep_52 : decode cX9_readStep 52 = .ok (.aload_n 0, 1) := by decide +kernel
theorem dX9_readStep_53 : decode cX9_readStep 53 = .ok (.dup, 1) := by decide +kernel
theorem dX9_readStep_54 : decode cX9_readStep 54 = .ok (.getfield 41, 3) := by decide +kernel
theorem dX9_readStep_57 : decode cX9_readStep 57 = .ok (.iconst 1, 1) := by decide +kernel
theorem dX9_readStep_58 : decode cX9_readStep 58 = .ok (.iadd, 1) := by decide +kernel
theorem dX9_readStep_59 : decode cX9_readStep 59 = .ok (.putfield 41, 3) := by decide +kernel
theorem dX9_readStep_62 : decode cX9_readStep 62 = .ok (.aload_n 0, 1) := by decide +kernel
theorem dX9_readStep_63 : decode cX9_readStep 63 = .ok (.getfield 11, 3) := by decide +kernel
theorem dX9_readStep_66 : decode cX9_readStep 66 = .ok (.iload 5, 2) := by decide +kernel
theorem dX9_readStep_68 : decode cX9_readStep 68 = .ok (.iload 4, 2) := by decide +kernel
theorem dX9_readStep_70 : decode cX9_readStep 70 = .ok (.iastore, 1) := by decide +kernel
theorem dX9_readStep_71 : decode cX9_readStep 71 = .ok (.aload_n 1, 1) := by decide +kernel
theorem dX9_readStep_72 : decode cX9_readStep 72 = .ok (.invokevirtual 72, 3) := by decide +kernel
theorem dX9_readStep_75 : decode cX9_readStep 75 = .ok (.iload 4, 2) := by decide +kernel
theorem dX9_readStep_77 : decode cX9_readStep 77 = .ok (.bipush 6, 2) := by decide +kernel
theorem dX9_readStep_79 : decode cX9_readStep 79 = .ok (.if_icmp .ne 41, 3) := by decide +kernel
theorem dX9_readStep_82 : decode cX9_readStep 82 = .ok (.aload_n 0, 1) := by decide +kernel
theorem dX9_readStep_83 : decode cX9_readStep 83 = .ok (.getfield 27, 3) := by decide +kernel
theorem dX9_readStep_86 : decode cX9_readStep 86 = .ok (.iload 5, 2) := by decide +kernel
theorem dX9_readStep_88 : decode cX9_readStep 88 = .ok (.aload_n 1, 1) := by decide +kernel
theorem dX9_readStep_89 : decode cX9_readStep 89 = .ok (.iconst 0, 1) := by decide +kernel
theorem dX9_readStep_90 : decode cX9_readStep 90 = .ok (.bipush 20, 2) := by decide +kernel
theorem dX9_readStep_92 : decode cX9_readStep 92 = .ok (.invokevirtual 75, 3) := by decide +kernel
theorem dX9_readStep_95 : decode cX9_readStep 95 = .ok (.iastore, 1) := by decide +kernel
theorem dX9_readStep_96 : decode cX9_readStep 96 = .ok (.aload_n 1, 1) := by decide +kernel
theorem dX9_readStep_97 : decode cX9_readStep 97 = .ok (.bipush 91, 2) := by decide +kernel
theorem dX9_readStep_99 : decode cX9_readStep 99 = .ok (.invokevirtual 60, 3) := by decide +kernel
theorem dX9_readStep_102 : decode cX9_readStep 102 = .ok (.aload_n 0, 1) := by decide +kernel
theorem dX9_readStep_103 : decode cX9_readStep 103 = .ok (.aload_n 1, 1) := by decide +kernel
theorem dX9_readStep_104 : decode cX9_readStep 104 = .ok (.aload_n 2, 1) := by decide +kernel
theorem dX9_readStep_105 : decode cX9_readStep 105 = .ok (.iload_n 3, 1) := by decide +kernel
theorem dX9_readStep_106 : decode cX9_readStep 106 = .ok (.iconst 1, 1) := by decide +kernel
theorem dX9_readStep_107 : decode cX9_readStep 107 = .ok (.iadd, 1) := by decide +kernel
theorem dX9_readStep_108 : decode cX9_readStep 108 = .ok (.invokevirtual 45, 3) := by decide +kernel
theorem dX9_readStep_111 : decode cX9_readStep 111 = .ok (.aload_n 1, 1) := by decide +kernel
theorem dX9_readStep_112 : decode cX9_readStep 112 = .ok (.bipush 93, 2) := by decide +kernel
theorem dX9_readStep_114 : decode cX9_readStep 114 = .ok (.invokevirtual 60, 3) := by decide +kernel
theorem dX9_readStep_117 : decode cX9_readStep 117 = .ok (.goto 23, 3) := by decide +kernel
theorem dX9_readStep_120 : decode cX9_readStep 120 = .ok (.iload 4, 2) := by decide +kernel
theorem dX9_readStep_122 : decode cX9_readStep 122 = .ok (.iconst 3, 1) := by decide +kernel
theorem dX9_readStep_123 : decode cX9_readStep 123 = .ok (.if_icmp .eq 17, 3) := by decide +kernel
theorem dX9_readStep_126 : decode cX9_readStep 126 = .ok (.iload 4, 2) := by decide +kernel
theorem dX9_readStep_128 : decode cX9_readStep 128 = .ok (.iconst 4, 1) := by decide +kernel
theorem dX9_readStep_129 : decode cX9_readStep 129 = .ok (.if_icmp .eq 11, 3) := by decide +kernel
theorem dX9_readStep_132 : decode cX9_readStep 132 = .ok (.aload_n 0, 1) := by decide +kernel
theorem dX9_readStep_133 : decode cX9_readStep 133 = .ok (.aload_n 1, 1) := by decide +kernel
theorem dX9_readStep_134 : decode cX9_readStep 134 = .ok (.aload_n 2, 1) := by decide +kernel
theorem dX9_readStep_135 : decode cX9_readStep 135 = .ok (.iload 5, 2) := by decide +kernel
theorem dX9_readStep_137 : decode cX9_readStep 137 = .ok (.invokevirtual 79, 3) := by decide +kernel
theorem dX9_readStep_140 : decode cX9_readStep 140 = .ok (.aload_n 0, 1) := by decide +kernel
theorem dX9_readStep_141 : decode cX9_readStep 141 = .ok (.getfield 30, 3) := by decide +kernel
theorem dX9_readStep_144 : decode cX9_readStep 144 = .ok (.iload 5, 2) := by decide +kernel
theorem dX9_readStep_146 : decode cX9_readStep 146 = .ok (.aload_n 0, 1) := by decide +kernel
theorem dX9_readStep_147 : decode cX9_readStep 147 = .ok (.getfield 41, 3) := by decide +kernel
theorem dX9_readStep_150 : decode cX9_readStep 150 = .ok (.iastore, 1) := by decide +kernel
theorem dX9_readStep_151 : decode cX9_readStep 151 = .ok (.return_, 1) := by decide +kernel
theorem dX9_readPlace_0 : decode cX9_readPlace 0 = .ok (.aload_n 0, 1) := by decide +kernel
theorem dX9_readPlace_1 : decode cX9_readPlace 1 = .ok (.getfield 11, 3) := by decide +kernel
theorem dX9_readPlace_4 : decode cX9_readPlace 4 = .ok (.iload_n 3, 1) := by decide +kernel
theorem dX9_readPlace_5 : decode cX9_readPlace 5 = .ok (.iaload, 1) := by decide +kernel
theorem dX9_readPlace_6 : decode cX9_readPlace 6 = .ok (.istore 4, 2) := by decide +kernel
theorem dX9_readPlace_8 : decode cX9_readPlace 8 = .ok (.aload_n 1, 1) := by decide +kernel
theorem dX9_readPlace_9 : decode cX9_readPlace 9 = .ok (.iconst 0, 1) := by decide +kernel
theorem dX9_readPlace_10 : decode cX9_readPlace 10 = .ok (.aload_n 2, 1) := by decide +kernel
theorem dX9_readPlace_11 : decode cX9_readPlace 11 = .ok (.getfield 82, 3) := by decide +kernel
theorem dX9_readPlace_14 : decode cX9_readPlace 14 = .ok (.iconst 1, 1) := by decide +kernel
theorem dX9_readPlace_15 : decode cX9_readPlace 15 = .ok (.isub, 1) := by decide +kernel
theorem dX9_readPlace_16 : decode cX9_readPlace 16 = .ok (.invokevirtual 75, 3) := by decide +kernel
theorem dX9_readPlace_19 : decode cX9_readPlace 19 = .ok (.istore 5, 2) := by decide +kernel
theorem dX9_readPlace_21 : decode cX9_readPlace 21 = .ok (.aload_n 0, 1) := by decide +kernel
theorem dX9_readPlace_22 : decode cX9_readPlace 22 = .ok (.getfield 15, 3) := by decide +kernel
theorem dX9_readPlace_25 : decode cX9_readPlace 25 = .ok (.iload_n 3, 1) := by decide +kernel
theorem dX9_readPlace_26 : decode cX9_readPlace 26 = .ok (.iload 5, 2) := by decide +kernel
theorem dX9_readPlace_28 : decode cX9_readPlace 28 = .ok (.iastore, 1) := by decide +kernel
theorem dX9_readPlace_29 : decode cX9_readPlace 29 = .ok (.iload 4, 2) := by decide +kernel
theorem dX9_readPlace_31 : decode cX9_readPlace 31 = .ok (.iconst 1, 1) := by decide +kernel
theorem dX9_readPlace_32 : decode cX9_readPlace 32 = .ok (.if_icmp .eq 9, 3) := by decide +kernel
theorem dX9_readPlace_35 : decode cX9_readPlace 35 = .ok (.iload 4, 2) := by decide +kernel
theorem dX9_readPlace_37 : decode cX9_readPlace 37 = .ok (.iconst 2, 1) := by decide +kernel
theorem dX9_readPlace_38 : decode cX9_readPlace 38 = .ok (.if_icmp .ne 43, 3) := by decide +kernel
theorem dX9_readPlace_41 : decode cX9_readPlace 41 = .ok (.aload_n 0, 1) := by decide +kernel
theorem dX9_readPlace_42 : decode cX9_readPlace 42 = .ok (.getfield 18, 3) := by decide +kernel
theorem dX9_readPlace_45 : decode cX9_readPlace 45 = .ok (.iload_n 3, 1) := by decide +kernel
theorem dX9_readPlace_46 : decode cX9_readPlace 46 = .ok (.aload_n 1, 1) := by decide +kernel
theorem dX9_readPlace_47 : decode cX9_readPlace 47 = .ok (.iconst 0, 1) := by decide +kernel
theorem dX9_readPlace_48 : decode cX9_readPlace 48 = .ok (.aload_n 2, 1) := by decide +kernel
theorem dX9_readPlace_49 : decode cX9_readPlace 49 = .ok (.getfield 87, 3) := by decide +kernel
theorem dX9_readPlace_52 : decode cX9_readPlace 52 = .ok (.iload 5, 2) := by decide +kernel
theorem dX9_readPlace_54 : decode cX9_readPlace 54 = .ok (.iaload, 1) := by decide +kernel
theorem dX9_readPlace_55 : decode cX9_readPlace 55 = .ok (.iconst 1, 1) := by decide +kernel
theorem dX9_readPlace_56 : decode cX9_readPlace 56 = .ok (.isub, 1) := by decide +kernel
theorem dX9_readPlace_57 : decode cX9_readPlace 57 = .ok (.invokevirtual 75, 3) := by decide +kernel
theorem dX9_readPlace_60 : decode cX9_readPlace 60 = .ok (.iastore, 1) := by decide +kernel
theorem dX9_readPlace_61 : decode cX9_readPlace 61 = .ok (.aload_n 0, 1) := by decide +kernel
theorem dX9_readPlace_62 : decode cX9_readPlace 62 = .ok (.getfield 21, 3) := by decide +kernel
theorem dX9_readPlace_65 : decode cX9_readPlace 65 = .ok (.iload_n 3, 1) := by decide +kernel
theorem dX9_readPlace_66 : decode cX9_readPlace 66 = .ok (.aload_n 1, 1) := by decide +kernel
theorem dX9_readPlace_67 : decode cX9_readPlace 67 = .ok (.iconst 0, 1) := by decide +kernel
theorem dX9_readPlace_68 : decode cX9_readPlace 68 = .ok (.aload_n 2, 1) := by decide +kernel
theorem dX9_readPlace_69 : decode cX9_readPlace 69 = .ok (.getfield 90, 3) := by decide +kernel
theorem dX9_readPlace_72 : decode cX9_readPlace 72 = .ok (.iload 5, 2) := by decide +kernel
theorem dX9_readPlace_74 : decode cX9_readPlace 74 = .ok (.iaload, 1) := by decide +kernel
theorem dX9_readPlace_75 : decode cX9_readPlace 75 = .ok (.iconst 1, 1) := by decide +kernel
theorem dX9_readPlace_76 : decode cX9_readPlace 76 = .ok (.isub, 1) := by decide +kernel
theorem dX9_readPlace_77 : decode cX9_readPlace 77 = .ok (.invokevirtual 75, 3) := by decide +kernel
theorem dX9_readPlace_80 : decode cX9_readPlace 80 = .ok (.iastore, 1) := by decide +kernel
theorem dX9_readPlace_81 : decode cX9_readPlace 81 = .ok (.aload_n 0, 1) := by decide +kernel
theorem dX9_readPlace_82 : decode cX9_readPlace 82 = .ok (.getfield 24, 3) := by decide +kernel
theorem dX9_readPlace_85 : decode cX9_readPlace 85 = .ok (.iload_n 3, 1) := by decide +kernel
theorem dX9_readPlace_86 : decode cX9_readPlace 86 = .ok (.iload 4, 2) := by decide +kernel
theorem dX9_readPlace_88 : decode cX9_readPlace 88 = .ok (.iconst 2, 1) := by decide +kernel
theorem dX9_readPlace_89 : decode cX9_readPlace 89 = .ok (.if_icmp .ne 13, 3) := by decide +kernel
theorem dX9_readPlace_92 : decode cX9_readPlace 92 = .ok (.aload_n 1, 1) := by decide +kernel
theorem dX9_readPlace_93 : decode cX9_readPlace 93 = .ok (.iconst 0, 1) := by decide +kernel
theorem dX9_readPlace_94 : decode cX9_readPlace 94 = .ok (.bipush 6, 2) := by decide +kernel
theorem dX9_readPlace_96 : decode cX9_readPlace 96 = .ok (.invokevirtual 75, 3) := by decide +kernel
theorem dX9_readPlace_99 : decode cX9_readPlace 99 = .ok (.goto 4, 3) := by decide +kernel
theorem dX9_readPlace_102 : decode cX9_readPlace 102 = .ok (.iconst 0, 1) := by decide +kernel
theorem dX9_readPlace_103 : decode cX9_readPlace 103 = .ok (.iastore, 1) := by decide +kernel
theorem dX9_readPlace_104 : decode cX9_readPlace 104 = .ok (.iload 4, 2) := by decide +kernel
theorem dX9_readPlace_106 : decode cX9_readPlace 106 = .ok (.iconst 5, 1) := by decide +kernel
theorem dX9_readPlace_107 : decode cX9_readPlace 107 = .ok (.if_icmp .eq 16, 3) := by decide +kernel
theorem dX9_readPlace_110 : decode cX9_readPlace 110 = .ok (.aload_n 0, 1) := by decide +kernel
theorem dX9_readPlace_111 : decode cX9_readPlace 111 = .ok (.getfield 27, 3) := by decide +kernel
theorem dX9_readPlace_114 : decode cX9_readPlace 114 = .ok (.iload_n 3, 1) := by decide +kernel
theorem dX9_readPlace_115 : decode cX9_readPlace 115 = .ok (.aload_n 1, 1) := by decide +kernel
theorem dX9_readPlace_116 : decode cX9_readPlace 116 = .ok (.iconst 1, 1) := by decide +kernel
theorem dX9_readPlace_117 : decode cX9_readPlace 117 = .ok (.bipush 30, 2) := by decide +kernel
theorem dX9_readPlace_119 : decode cX9_readPlace 119 = .ok (.invokevirtual 75, 3) := by decide +kernel
theorem dX9_readPlace_122 : decode cX9_readPlace 122 = .ok (.iastore, 1) := by decide +kernel
theorem dX9_readPlace_123 : decode cX9_readPlace 123 = .ok (.return_, 1) := by decide +kernel
theorem dX9_kindOf_0 : decode cX9_kindOf 0 = .ok (.aload_n 0, 1) := by decide +kernel
theorem dX9_kindOf_1 : decode cX9_kindOf 1 = .ok (.ldc 93, 2) := by decide +kernel
theorem dX9_kindOf_3 : decode cX9_kindOf 3 = .ok (.invokevirtual 95, 3) := by decide +kernel
theorem dX9_kindOf_6 : decode cX9_kindOf 6 = .ok (.ifCond .eq 5, 3) := by decide +kernel
theorem dX9_kindOf_9 : decode cX9_kindOf 9 = .ok (.iconst 0, 1) := by decide +kernel
theorem dX9_kindOf_10 : decode cX9_kindOf 10 = .ok (.ireturn, 1) := by decide +kernel
theorem dX9_kindOf_11 : decode cX9_kindOf 11 = .ok (.aload_n 0, 1) := by decide +kernel
theorem dX9_kindOf_12 : decode cX9_kindOf 12 = .ok (.ldc 99, 2) := by decide +kernel
theorem dX9_kindOf_14 : decode cX9_kindOf 14 = .ok (.invokevirtual 95, 3) := by decide +kernel
theorem dX9_kindOf_17 : decode cX9_kindOf 17 = .ok (.ifCond .eq 5, 3) := by decide +kernel
theorem dX9_kindOf_20 : decode cX9_kindOf 20 = .ok (.iconst 1, 1) := by decide +kernel
theorem dX9_kindOf_21 : decode cX9_kindOf 21 = .ok (.ireturn, 1) := by decide +kernel
theorem dX9_kindOf_22 : decode cX9_kindOf 22 = .ok (.aload_n 0, 1) := by decide +kernel
theorem dX9_kindOf_23 : decode cX9_kindOf 23 = .ok (.ldc 101, 2) := by decide +kernel
theorem dX9_kindOf_25 : decode cX9_kindOf 25 = .ok (.invokevirtual 95, 3) := by decide +kernel
theorem dX9_kindOf_28 : decode cX9_kindOf 28 = .ok (.ifCond .eq 5, 3) := by decide +kernel
theorem dX9_kindOf_31 : decode cX9_kindOf 31 = .ok (.iconst 2, 1) := by decide +kernel
theorem dX9_kindOf_32 : decode cX9_kindOf 32 = .ok (.ireturn, 1) := by decide +kernel
theorem dX9_kindOf_33 : decode cX9_kindOf 33 = .ok (.aload_n 0, 1) := by decide +kernel
theorem dX9_kindOf_34 : decode cX9_kindOf 34 = .ok (.ldc 103, 2) := by decide +kernel
theorem dX9_kindOf_36 : decode cX9_kindOf 36 = .ok (.invokevirtual 95, 3) := by decide +kernel
theorem dX9_kindOf_39 : decode cX9_kindOf 39 = .ok (.ifCond .eq 5, 3) := by decide +kernel
theorem dX9_kindOf_42 : decode cX9_kindOf 42 = .ok (.iconst 3, 1) := by decide +kernel
theorem dX9_kindOf_43 : decode cX9_kindOf 43 = .ok (.ireturn, 1) := by decide +kernel
theorem dX9_kindOf_44 : decode cX9_kindOf 44 = .ok (.aload_n 0, 1) := by decide +kernel
theorem dX9_kindOf_45 : decode cX9_kindOf 45 = .ok (.ldc 105, 2) := by decide +kernel
theorem dX9_kindOf_47 : decode cX9_kindOf 47 = .ok (.invokevirtual 95, 3) := by decide +kernel
theorem dX9_kindOf_50 : decode cX9_kindOf 50 = .ok (.ifCond .eq 5, 3) := by decide +kernel
theorem dX9_kindOf_53 : decode cX9_kindOf 53 = .ok (.iconst 4, 1) := by decide +kernel
theorem dX9_kindOf_54 : decode cX9_kindOf 54 = .ok (.ireturn, 1) := by decide +kernel
theorem dX9_kindOf_55 : decode cX9_kindOf 55 = .ok (.aload_n 0, 1) := by decide +kernel
theorem dX9_kindOf_56 : decode cX9_kindOf 56 = .ok (.ldc 107, 2) := by decide +kernel
theorem dX9_kindOf_58 : decode cX9_kindOf 58 = .ok (.invokevirtual 95, 3) := by decide +kernel
theorem dX9_kindOf_61 : decode cX9_kindOf 61 = .ok (.ifCond .eq 5, 3) := by decide +kernel
theorem dX9_kindOf_64 : decode cX9_kindOf 64 = .ok (.iconst 5, 1) := by decide +kernel
theorem dX9_kindOf_65 : decode cX9_kindOf 65 = .ok (.ireturn, 1) := by decide +kernel
theorem dX9_kindOf_66 : decode cX9_kindOf 66 = .ok (.aload_n 0, 1) := by decide +kernel
theorem dX9_kindOf_67 : decode cX9_kindOf 67 = .ok (.ldc 109, 2) := by decide +kernel
theorem dX9_kindOf_69 : decode cX9_kindOf 69 = .ok (.invokevirtual 95, 3) := by decide +kernel
theorem dX9_kindOf_72 : decode cX9_kindOf 72 = .ok (.ifCond .eq 8, 3) := by decide +kernel
theorem dX9_kindOf_75 : decode cX9_kindOf 75 = .ok (.bipush 6, 2) := by decide +kernel
theorem dX9_kindOf_77 : decode cX9_kindOf 77 = .ok (.goto 4, 3) := by decide +kernel
theorem dX9_kindOf_80 : decode cX9_kindOf 80 = .ok (.iconst (-1), 1) := by decide +kernel
theorem dX9_kindOf_81 : decode cX9_kindOf 81 = .ok (.ireturn, 1) := by decide +kernel
theorem dX9_doAll_0 : decode cX9_doAll 0 = .ok (.aload_n 0, 1) := by decide +kernel
theorem dX9_doAll_1 : decode cX9_doAll 1 = .ok (.iconst 0, 1) := by decide +kernel
theorem dX9_doAll_2 : decode cX9_doAll 2 = .ok (.putfield 111, 3) := by decide +kernel
theorem dX9_doAll_5 : decode cX9_doAll 5 = .ok (.aload_n 0, 1) := by decide +kernel
theorem dX9_doAll_6 : decode cX9_doAll 6 = .ok (.iconst 0, 1) := by decide +kernel
theorem dX9_doAll_7 : decode cX9_doAll 7 = .ok (.putfield 114, 3) := by decide +kernel
theorem dX9_doAll_10 : decode cX9_doAll 10 = .ok (.aload_n 0, 1) := by decide +kernel
theorem dX9_doAll_11 : decode cX9_doAll 11 = .ok (.iconst 0, 1) := by decide +kernel
theorem dX9_doAll_12 : decode cX9_doAll 12 = .ok (.putfield 117, 3) := by decide +kernel
theorem dX9_doAll_15 : decode cX9_doAll 15 = .ok (.aload_n 0, 1) := by decide +kernel
theorem dX9_doAll_16 : decode cX9_doAll 16 = .ok (.aload_n 1, 1) := by decide +kernel
theorem dX9_doAll_17 : decode cX9_doAll 17 = .ok (.aload_n 2, 1) := by decide +kernel
theorem dX9_doAll_18 : decode cX9_doAll 18 = .ok (.iconst 0, 1) := by decide +kernel
theorem dX9_doAll_19 : decode cX9_doAll 19 = .ok (.aload_n 0, 1) := by decide +kernel
theorem dX9_doAll_20 : decode cX9_doAll 20 = .ok (.getfield 41, 3) := by decide +kernel
theorem dX9_doAll_23 : decode cX9_doAll 23 = .ok (.iconst 0, 1) := by decide +kernel
theorem dX9_doAll_24 : decode cX9_doAll 24 = .ok (.invokevirtual 120, 3) := by decide +kernel
theorem dX9_doAll_27 : decode cX9_doAll 27 = .ok (.return_, 1) := by decide +kernel
theorem dX9_doSteps_0 : decode cX9_doSteps 0 = .ok (.iload_n 3, 1) := by decide +kernel
theorem dX9_doSteps_1 : decode cX9_doSteps 1 = .ok (.istore 6, 2) := by decide +kernel
theorem dX9_doSteps_3 : decode cX9_doSteps 3 = .ok (.iconst 0, 1) := by decide +kernel
theorem dX9_doSteps_4 : decode cX9_doSteps 4 = .ok (.istore 7, 2) := by decide +kernel
theorem dX9_doSteps_6 : decode cX9_doSteps 6 = .ok (.iload 7, 2) := by decide +kernel
theorem dX9_doSteps_8 : decode cX9_doSteps 8 = .ok (.bipush 50, 2) := by decide +kernel
theorem dX9_doSteps_10 : decode cX9_doSteps 10 = .ok (.if_icmp .ge 104, 3) := by decide +kernel
theorem dX9_doSteps_13 : decode cX9_doSteps 13 = .ok (.iload 6, 2) := by decide +kernel
theorem dX9_doSteps_15 : decode cX9_doSteps 15 = .ok (.iload 4, 2) := by decide +kernel
theorem dX9_doSteps_17 : decode cX9_doSteps 17 = .ok (.if_icmp .ge 97, 3) := by decide +kernel
theorem dX9_doSteps_20 : decode cX9_doSteps 20 = .ok (.aload_n 0, 1) := by decide +kernel
theorem dX9_doSteps_21 : decode cX9_doSteps 21 = .ok (.getfield 111, 3) := by decide +kernel
theorem dX9_doSteps_24 : decode cX9_doSteps 24 = .ok (.sipush 200, 3) := by decide +kernel
theorem dX9_doSteps_27 : decode cX9_doSteps 27 = .ok (.if_icmp .ge 87, 3) := by decide +kernel
theorem dX9_doSteps_30 : decode cX9_doSteps 30 = .ok (.aload_n 0, 1) := by decide +kernel
theorem dX9_doSteps_31 : decode cX9_doSteps 31 = .ok (.dup, 1) := by decide +kernel
theorem dX9_doSteps_32 : decode cX9_doSteps 32 = .ok (.getfield 111, 3) := by decide +kernel
theorem dX9_doSteps_35 : decode cX9_doSteps 35 = .ok (.iconst 1, 1) := by decide +kernel
theorem dX9_doSteps_36 : decode cX9_doSteps 36 = .ok (.iadd, 1) := by decide +kernel
theorem dX9_doSteps_37 : decode cX9_doSteps 37 = .ok (.putfield 111, 3) := by decide +kernel
theorem dX9_doSteps_40 : decode cX9_doSteps 40 = .ok (.aload_n 0, 1) := by decide +kernel
theorem dX9_doSteps_41 : decode cX9_doSteps 41 = .ok (.getfield 11, 3) := by decide +kernel
theorem dX9_doSteps_44 : decode cX9_doSteps 44 = .ok (.iload 6, 2) := by decide +kernel
theorem dX9_doSteps_46 : decode cX9_doSteps 46 = .ok (.iaload, 1) := by decide +kernel
theorem dX9_doSteps_47 : decode cX9_doSteps 47 = .ok (.bipush 6, 2) := by decide +kernel
theorem dX9_doSteps_49 : decode cX9_doSteps 49 = .ok (.if_icmp .ne 16, 3) := by decide +kernel
theorem dX9_doSteps_52 : decode cX9_doSteps 52 = .ok (.aload_n 0, 1) := by decide +kernel
theorem dX9_doSteps_53 : decode cX9_doSteps 53 = .ok (.aload_n 1, 1) := by decide +kernel
theorem dX9_doSteps_54 : decode cX9_doSteps 54 = .ok (.aload_n 2, 1) := by decide +kernel
theorem dX9_doSteps_55 : decode cX9_doSteps 55 = .ok (.iload 6, 2) := by decide +kernel
theorem dX9_doSteps_57 : decode cX9_doSteps 57 = .ok (.iload 5, 2) := by decide +kernel
theorem dX9_doSteps_59 : decode cX9_doSteps 59 = .ok (.invokevirtual 124, 3) := by decide +kernel
theorem dX9_doSteps_62 : decode cX9_doSteps 62 = .ok (.goto 37, 3) := by decide +kernel
theorem dX9_doSteps_65 : decode cX9_doSteps 65 = .ok (.aload_n 0, 1) := by decide +kernel
theorem dX9_doSteps_66 : decode cX9_doSteps 66 = .ok (.aload_n 1, 1) := by decide +kernel
theorem dX9_doSteps_67 : decode cX9_doSteps 67 = .ok (.aload_n 2, 1) := by decide +kernel
theorem dX9_doSteps_68 : decode cX9_doSteps 68 = .ok (.iload 6, 2) := by decide +kernel
theorem dX9_doSteps_70 : decode cX9_doSteps 70 = .ok (.invokevirtual 128, 3) := by decide +kernel
theorem dX9_doSteps_73 : decode cX9_doSteps 73 = .ok (.ifCond .eq 16, 3) := by decide +kernel
theorem dX9_doSteps_76 : decode cX9_doSteps 76 = .ok (.aload_n 0, 1) := by decide +kernel
theorem dX9_doSteps_77 : decode cX9_doSteps 77 = .ok (.dup, 1) := by decide +kernel
theorem dX9_doSteps_78 : decode cX9_doSteps 78 = .ok (.getfield 114, 3) := by decide +kernel
theorem dX9_doSteps_81 : decode cX9_doSteps 81 = .ok (.iconst 1, 1) := by decide +kernel
theorem dX9_doSteps_82 : decode cX9_doSteps 82 = .ok (.iadd, 1) := by decide +kernel
theorem dX9_doSteps_83 : decode cX9_doSteps 83 = .ok (.putfield 114, 3) := by decide +kernel
theorem dX9_doSteps_86 : decode cX9_doSteps 86 = .ok (.goto 13, 3) := by decide +kernel
theorem dX9_doSteps_89 : decode cX9_doSteps 89 = .ok (.aload_n 0, 1) := by decide +kernel
theorem dX9_doSteps_90 : decode cX9_doSteps 90 = .ok (.dup, 1) := by decide +kernel
theorem dX9_doSteps_91 : decode cX9_doSteps 91 = .ok (.getfield 117, 3) := by decide +kernel
theorem dX9_doSteps_94 : decode cX9_doSteps 94 = .ok (.iconst 1, 1) := by decide +kernel
theorem dX9_doSteps_95 : decode cX9_doSteps 95 = .ok (.iadd, 1) := by decide +kernel
theorem dX9_doSteps_96 : decode cX9_doSteps 96 = .ok (.putfield 117, 3) := by decide +kernel
theorem dX9_doSteps_99 : decode cX9_doSteps 99 = .ok (.aload_n 0, 1) := by decide +kernel
theorem dX9_doSteps_100 : decode cX9_doSteps 100 = .ok (.getfield 30, 3) := by decide +kernel
theorem dX9_doSteps_103 : decode cX9_doSteps 103 = .ok (.iload 6, 2) := by decide +kernel
theorem dX9_doSteps_105 : decode cX9_doSteps 105 = .ok (.iaload, 1) := by decide +kernel
theorem dX9_doSteps_106 : decode cX9_doSteps 106 = .ok (.istore 6, 2) := by decide +kernel
theorem dX9_doSteps_108 : decode cX9_doSteps 108 = .ok (.iinc 7 1, 3) := by decide +kernel
theorem dX9_doSteps_111 : decode cX9_doSteps 111 = .ok (.goto (-105), 3) := by decide +kernel
theorem dX9_doSteps_114 : decode cX9_doSteps 114 = .ok (.return_, 1) := by decide +kernel
theorem dX9_doAgain_0 : decode cX9_doAgain 0 = .ok (.iload 4, 2) := by decide +kernel
theorem dX9_doAgain_2 : decode cX9_doAgain 2 = .ok (.bipush 6, 2) := by decide +kernel
theorem dX9_doAgain_4 : decode cX9_doAgain 4 = .ok (.if_icmp .lt 4, 3) := by decide +kernel
theorem dX9_doAgain_7 : decode cX9_doAgain 7 = .ok (.return_, 1) := by decide +kernel
theorem dX9_doAgain_8 : decode cX9_doAgain 8 = .ok (.iconst 0, 1) := by decide +kernel
theorem dX9_doAgain_9 : decode cX9_doAgain 9 = .ok (.istore 5, 2) := by decide +kernel
theorem dX9_doAgain_11 : decode cX9_doAgain 11 = .ok (.iload 5, 2) := by decide +kernel
theorem dX9_doAgain_13 : decode cX9_doAgain 13 = .ok (.aload_n 0, 1) := by decide +kernel
theorem dX9_doAgain_14 : decode cX9_doAgain 14 = .ok (.getfield 27, 3) := by decide +kernel
theorem dX9_doAgain_17 : decode cX9_doAgain 17 = .ok (.iload_n 3, 1) := by decide +kernel
theorem dX9_doAgain_18 : decode cX9_doAgain 18 = .ok (.iaload, 1) := by decide +kernel
theorem dX9_doAgain_19 : decode cX9_doAgain 19 = .ok (.if_icmp .ge 38, 3) := by decide +kernel
theorem dX9_doAgain_22 : decode cX9_doAgain 22 = .ok (.aload_n 0, 1) := by decide +kernel
theorem dX9_doAgain_23 : decode cX9_doAgain 23 = .ok (.getfield 111, 3) := by decide +kernel
theorem dX9_doAgain_26 : decode cX9_doAgain 26 = .ok (.sipush 200, 3) := by decide +kernel
theorem dX9_doAgain_29 : decode cX9_doAgain 29 = .ok (.if_icmp .ge 28, 3) := by decide +kernel
theorem dX9_doAgain_32 : decode cX9_doAgain 32 = .ok (.aload_n 0, 1) := by decide +kernel
theorem dX9_doAgain_33 : decode cX9_doAgain 33 = .ok (.aload_n 1, 1) := by decide +kernel
theorem dX9_doAgain_34 : decode cX9_doAgain 34 = .ok (.aload_n 2, 1) := by decide +kernel
theorem dX9_doAgain_35 : decode cX9_doAgain 35 = .ok (.iload_n 3, 1) := by decide +kernel
theorem dX9_doAgain_36 : decode cX9_doAgain 36 = .ok (.iconst 1, 1) := by decide +kernel
theorem dX9_doAgain_37 : decode cX9_doAgain 37 = .ok (.iadd, 1) := by decide +kernel
theorem dX9_doAgain_38 : decode cX9_doAgain 38 = .ok (.aload_n 0, 1) := by decide +kernel
theorem dX9_doAgain_39 : decode cX9_doAgain 39 = .ok (.getfield 30, 3) := by decide +kernel
theorem dX9_doAgain_42 : decode cX9_doAgain 42 = .ok (.iload_n 3, 1) := by decide +kernel
theorem dX9_doAgain_43 : decode cX9_doAgain 43 = .ok (.iaload, 1) := by decide +kernel
theorem dX9_doAgain_44 : decode cX9_doAgain 44 = .ok (.iload 4, 2) := by decide +kernel
theorem dX9_doAgain_46 : decode cX9_doAgain 46 = .ok (.iconst 1, 1) := by decide +kernel
theorem dX9_doAgain_47 : decode cX9_doAgain 47 = .ok (.iadd, 1) := by decide +kernel
theorem dX9_doAgain_48 : decode cX9_doAgain 48 = .ok (.invokevirtual 120, 3) := by decide +kernel
theorem dX9_doAgain_51 : decode cX9_doAgain 51 = .ok (.iinc 5 1, 3) := by decide +kernel
theorem dX9_doAgain_54 : decode cX9_doAgain 54 = .ok (.goto (-43), 3) := by decide +kernel
theorem dX9_doAgain_57 : decode cX9_doAgain 57 = .ok (.return_, 1) := by decide +kernel
theorem dX9_isDone_0 : decode cX9_isDone 0 = .ok (.aload_n 0, 1) := by decide +kernel
theorem dX9_isDone_1 : decode cX9_isDone 1 = .ok (.getfield 15, 3) := by decide +kernel
theorem dX9_isDone_4 : decode cX9_isDone 4 = .ok (.iload_n 3, 1) := by decide +kernel
theorem dX9_isDone_5 : decode cX9_isDone 5 = .ok (.iaload, 1) := by decide +kernel
theorem dX9_isDone_6 : decode cX9_isDone 6 = .ok (.istore 4, 2) := by decide +kernel
theorem dX9_isDone_8 : decode cX9_isDone 8 = .ok (.aload_n 0, 1) := by decide +kernel
theorem dX9_isDone_9 : decode cX9_isDone 9 = .ok (.getfield 11, 3) := by decide +kernel
theorem dX9_isDone_12 : decode cX9_isDone 12 = .ok (.iload_n 3, 1) := by decide +kernel
theorem dX9_isDone_13 : decode cX9_isDone 13 = .ok (.iaload, 1) := by decide +kernel
theorem dX9_isDone_14 : decode cX9_isDone 14 = .ok (.tableswitch 128 0 4 #[34, 57, 57, 106, 120], 34) := by decide +kernel
theorem dX9_isDone_48 : decode cX9_isDone 48 = .ok (.aload_n 0, 1) := by decide +kernel
theorem dX9_isDone_49 : decode cX9_isDone 49 = .ok (.getfield 33, 3) := by decide +kernel
theorem dX9_isDone_52 : decode cX9_isDone 52 = .ok (.iload 4, 2) := by decide +kernel
theorem dX9_isDone_54 : decode cX9_isDone 54 = .ok (.aload_n 1, 1) := by decide +kernel
theorem dX9_isDone_55 : decode cX9_isDone 55 = .ok (.getfield 132, 3) := by decide +kernel
theorem dX9_isDone_58 : decode cX9_isDone 58 = .ok (.iload 4, 2) := by decide +kernel
theorem dX9_isDone_60 : decode cX9_isDone 60 = .ok (.iaload, 1) := by decide +kernel
theorem dX9_isDone_61 : decode cX9_isDone 61 = .ok (.aload_n 0, 1) := by decide +kernel
theorem dX9_isDone_62 : decode cX9_isDone 62 = .ok (.getfield 27, 3) := by decide +kernel
theorem dX9_isDone_65 : decode cX9_isDone 65 = .ok (.iload_n 3, 1) := by decide +kernel
theorem dX9_isDone_66 : decode cX9_isDone 66 = .ok (.iaload, 1) := by decide +kernel
theorem dX9_isDone_67 : decode cX9_isDone 67 = .ok (.invokevirtual 135, 3) := by decide +kernel
theorem dX9_isDone_70 : decode cX9_isDone 70 = .ok (.ireturn, 1) := by decide +kernel
theorem dX9_isDone_71 : decode cX9_isDone 71 = .ok (.aload_n 0, 1) := by decide +kernel
theorem dX9_isDone_72 : decode cX9_isDone 72 = .ok (.getfield 18, 3) := by decide +kernel
theorem dX9_isDone_75 : decode cX9_isDone 75 = .ok (.iload_n 3, 1) := by decide +kernel
theorem dX9_isDone_76 : decode cX9_isDone 76 = .ok (.iaload, 1) := by decide +kernel
theorem dX9_isDone_77 : decode cX9_isDone 77 = .ok (.aload_n 0, 1) := by decide +kernel
theorem dX9_isDone_78 : decode cX9_isDone 78 = .ok (.getfield 21, 3) := by decide +kernel
theorem dX9_isDone_81 : decode cX9_isDone 81 = .ok (.iload_n 3, 1) := by decide +kernel
theorem dX9_isDone_82 : decode cX9_isDone 82 = .ok (.iaload, 1) := by decide +kernel
theorem dX9_isDone_83 : decode cX9_isDone 83 = .ok (.aload_n 0, 1) := by decide +kernel
theorem dX9_isDone_84 : decode cX9_isDone 84 = .ok (.getfield 24, 3) := by decide +kernel
theorem dX9_isDone_87 : decode cX9_isDone 87 = .ok (.iload_n 3, 1) := by decide +kernel
theorem dX9_isDone_88 : decode cX9_isDone 88 = .ok (.iaload, 1) := by decide +kernel
theorem dX9_isDone_89 : decode cX9_isDone 89 = .ok (.invokestatic 140, 3) := by decide +kernel
theorem dX9_isDone_92 : decode cX9_isDone 92 = .ok (.aload_n 1, 1) := by decide +kernel
theorem dX9_isDone_93 : decode cX9_isDone 93 = .ok (.getfield 132, 3) := by decide +kernel
theorem dX9_isDone_96 : decode cX9_isDone 96 = .ok (.iload 4, 2) := by decide +kernel
theorem dX9_isDone_98 : decode cX9_isDone 98 = .ok (.iaload, 1) := by decide +kernel
theorem dX9_isDone_99 : decode cX9_isDone 99 = .ok (.iand, 1) := by decide +kernel
theorem dX9_isDone_100 : decode cX9_isDone 100 = .ok (.istore 5, 2) := by decide +kernel
theorem dX9_isDone_102 : decode cX9_isDone 102 = .ok (.aload_n 0, 1) := by decide +kernel
theorem dX9_isDone_103 : decode cX9_isDone 103 = .ok (.getfield 33, 3) := by decide +kernel
theorem dX9_isDone_106 : decode cX9_isDone 106 = .ok (.iload 4, 2) := by decide +kernel
theorem dX9_isDone_108 : decode cX9_isDone 108 = .ok (.iload 5, 2) := by decide +kernel
theorem dX9_isDone_110 : decode cX9_isDone 110 = .ok (.aload_n 0, 1) := by decide +kernel
theorem dX9_isDone_111 : decode cX9_isDone 111 = .ok (.getfield 27, 3) := by decide +kernel
theorem dX9_isDone_114 : decode cX9_isDone 114 = .ok (.iload_n 3, 1) := by decide +kernel
theorem dX9_isDone_115 : decode cX9_isDone 115 = .ok (.iaload, 1) := by decide +kernel
theorem dX9_isDone_116 : decode cX9_isDone 116 = .ok (.invokevirtual 135, 3) := by decide +kernel
theorem dX9_isDone_119 : decode cX9_isDone 119 = .ok (.ireturn, 1) := by decide +kernel
theorem dX9_isDone_120 : decode cX9_isDone 120 = .ok (.aload_n 0, 1) := by decide +kernel
theorem dX9_isDone_121 : decode cX9_isDone 121 = .ok (.getfield 37, 3) := by decide +kernel
theorem dX9_isDone_124 : decode cX9_isDone 124 = .ok (.aload_n 0, 1) := by decide +kernel
theorem dX9_isDone_125 : decode cX9_isDone 125 = .ok (.getfield 33, 3) := by decide +kernel
theorem dX9_isDone_128 : decode cX9_isDone 128 = .ok (.aload_n 1, 1) := by decide +kernel
theorem dX9_isDone_129 : decode cX9_isDone 129 = .ok (.aload_n 2, 1) := by decide +kernel
theorem dX9_isDone_130 : decode cX9_isDone 130 = .ok (.invokevirtual 146, 3) := by decide +kernel
theorem dX9_isDone_133 : decode cX9_isDone 133 = .ok (.ireturn, 1) := by decide +kernel
theorem dX9_isDone_134 : decode cX9_isDone 134 = .ok (.aload_n 0, 1) := by decide +kernel
theorem dX9_isDone_135 : decode cX9_isDone 135 = .ok (.getfield 33, 3) := by decide +kernel
theorem dX9_isDone_138 : decode cX9_isDone 138 = .ok (.invokevirtual 152, 3) := by decide +kernel
theorem dX9_isDone_141 : decode cX9_isDone 141 = .ok (.ireturn, 1) := by decide +kernel
theorem dX9_isDone_142 : decode cX9_isDone 142 = .ok (.aload_n 0, 1) := by decide +kernel
theorem dX9_isDone_143 : decode cX9_isDone 143 = .ok (.getfield 33, 3) := by decide +kernel
theorem dX9_isDone_146 : decode cX9_isDone 146 = .ok (.iload 4, 2) := by decide +kernel
theorem dX9_isDone_148 : decode cX9_isDone 148 = .ok (.invokevirtual 154, 3) := by decide +kernel
theorem dX9_isDone_151 : decode cX9_isDone 151 = .ok (.ireturn, 1) := by decide +kernel
theorem dJ6_bitCount_0f7a4_0 : decode cJ6_bitCount_0f7a4 0 = .ok (.iload_n 0, 1) := by decide +kernel
theorem dJ6_bitCount_0f7a4_1 : decode cJ6_bitCount_0f7a4 1 = .ok (.iload_n 0, 1) := by decide +kernel
theorem dJ6_bitCount_0f7a4_2 : decode cJ6_bitCount_0f7a4 2 = .ok (.iconst 1, 1) := by decide +kernel
theorem dJ6_bitCount_0f7a4_3 : decode cJ6_bitCount_0f7a4 3 = .ok (.iushr, 1) := by decide +kernel
theorem dJ6_bitCount_0f7a4_4 : decode cJ6_bitCount_0f7a4 4 = .ok (.ldc_w 265, 3) := by decide +kernel
theorem dJ6_bitCount_0f7a4_7 : decode cJ6_bitCount_0f7a4 7 = .ok (.iand, 1) := by decide +kernel
theorem dJ6_bitCount_0f7a4_8 : decode cJ6_bitCount_0f7a4 8 = .ok (.isub, 1) := by decide +kernel
theorem dJ6_bitCount_0f7a4_9 : decode cJ6_bitCount_0f7a4 9 = .ok (.istore_n 0, 1) := by decide +kernel
theorem dJ6_bitCount_0f7a4_10 : decode cJ6_bitCount_0f7a4 10 = .ok (.iload_n 0, 1) := by decide +kernel
theorem dJ6_bitCount_0f7a4_11 : decode cJ6_bitCount_0f7a4 11 = .ok (.ldc_w 266, 3) := by decide +kernel
theorem dJ6_bitCount_0f7a4_14 : decode cJ6_bitCount_0f7a4 14 = .ok (.iand, 1) := by decide +kernel
theorem dJ6_bitCount_0f7a4_15 : decode cJ6_bitCount_0f7a4 15 = .ok (.iload_n 0, 1) := by decide +kernel
theorem dJ6_bitCount_0f7a4_16 : decode cJ6_bitCount_0f7a4 16 = .ok (.iconst 2, 1) := by decide +kernel
theorem dJ6_bitCount_0f7a4_17 : decode cJ6_bitCount_0f7a4 17 = .ok (.iushr, 1) := by decide +kernel
theorem dJ6_bitCount_0f7a4_18 : decode cJ6_bitCount_0f7a4 18 = .ok (.ldc_w 266, 3) := by decide +kernel
theorem dJ6_bitCount_0f7a4_21 : decode cJ6_bitCount_0f7a4 21 = .ok (.iand, 1) := by decide +kernel
theorem dJ6_bitCount_0f7a4_22 : decode cJ6_bitCount_0f7a4 22 = .ok (.iadd, 1) := by decide +kernel
theorem dJ6_bitCount_0f7a4_23 : decode cJ6_bitCount_0f7a4 23 = .ok (.istore_n 0, 1) := by decide +kernel
theorem dJ6_bitCount_0f7a4_24 : decode cJ6_bitCount_0f7a4 24 = .ok (.iload_n 0, 1) := by decide +kernel
theorem dJ6_bitCount_0f7a4_25 : decode cJ6_bitCount_0f7a4 25 = .ok (.iload_n 0, 1) := by decide +kernel
theorem dJ6_bitCount_0f7a4_26 : decode cJ6_bitCount_0f7a4 26 = .ok (.iconst 4, 1) := by decide +kernel
theorem dJ6_bitCount_0f7a4_27 : decode cJ6_bitCount_0f7a4 27 = .ok (.iushr, 1) := by decide +kernel
theorem dJ6_bitCount_0f7a4_28 : decode cJ6_bitCount_0f7a4 28 = .ok (.iadd, 1) := by decide +kernel
theorem dJ6_bitCount_0f7a4_29 : decode cJ6_bitCount_0f7a4 29 = .ok (.ldc_w 267, 3) := by decide +kernel
theorem dJ6_bitCount_0f7a4_32 : decode cJ6_bitCount_0f7a4 32 = .ok (.iand, 1) := by decide +kernel
theorem dJ6_bitCount_0f7a4_33 : decode cJ6_bitCount_0f7a4 33 = .ok (.istore_n 0, 1) := by decide +kernel
theorem dJ6_bitCount_0f7a4_34 : decode cJ6_bitCount_0f7a4 34 = .ok (.iload_n 0, 1) := by decide +kernel
theorem dJ6_bitCount_0f7a4_35 : decode cJ6_bitCount_0f7a4 35 = .ok (.iload_n 0, 1) := by decide +kernel
theorem dJ6_bitCount_0f7a4_36 : decode cJ6_bitCount_0f7a4 36 = .ok (.bipush 8, 2) := by decide +kernel
theorem dJ6_bitCount_0f7a4_38 : decode cJ6_bitCount_0f7a4 38 = .ok (.iushr, 1) := by decide +kernel
theorem dJ6_bitCount_0f7a4_39 : decode cJ6_bitCount_0f7a4 39 = .ok (.iadd, 1) := by decide +kernel
theorem dJ6_bitCount_0f7a4_40 : decode cJ6_bitCount_0f7a4 40 = .ok (.istore_n 0, 1) := by decide +kernel
theorem dJ6_bitCount_0f7a4_41 : decode cJ6_bitCount_0f7a4 41 = .ok (.iload_n 0, 1) := by decide +kernel
theorem dJ6_bitCount_0f7a4_42 : decode cJ6_bitCount_0f7a4 42 = .ok (.iload_n 0, 1) := by decide +kernel
theorem dJ6_bitCount_0f7a4_43 : decode cJ6_bitCount_0f7a4 43 = .ok (.bipush 16, 2) := by decide +kernel
theorem dJ6_bitCount_0f7a4_45 : decode cJ6_bitCount_0f7a4 45 = .ok (.iushr, 1) := by decide +kernel
theorem dJ6_bitCount_0f7a4_46 : decode cJ6_bitCount_0f7a4 46 = .ok (.iadd, 1) := by decide +kernel
theorem dJ6_bitCount_0f7a4_47 : decode cJ6_bitCount_0f7a4 47 = .ok (.istore_n 0, 1) := by decide +kernel
theorem dJ6_bitCount_0f7a4_48 : decode cJ6_bitCount_0f7a4 48 = .ok (.iload_n 0, 1) := by decide +kernel
theorem dJ6_bitCount_0f7a4_49 : decode cJ6_bitCount_0f7a4 49 = .ok (.bipush 63, 2) := by decide +kernel
theorem dJ6_bitCount_0f7a4_51 : decode cJ6_bitCount_0f7a4 51 = .ok (.iand, 1) := by decide +kernel
theorem dJ6_bitCount_0f7a4_52 : decode cJ6_bitCount_0f7a4 52 = .ok (.ireturn, 1) := by decide +kernel
theorem dJ9_abs_0f7a4_0 : decode cJ9_abs_0f7a4 0 = .ok (.iload_n 0, 1) := by decide +kernel
theorem dJ9_abs_0f7a4_1 : decode cJ9_abs_0f7a4 1 = .ok (.ifCond .ge 8, 3) := by decide +kernel
theorem dJ9_abs_0f7a4_4 : decode cJ9_abs_0f7a4 4 = .ok (.iload_n 0, 1) := by decide +kernel
theorem dJ9_abs_0f7a4_5 : decode cJ9_abs_0f7a4 5 = .ok (.ineg, 1) := by decide +kernel
theorem dJ9_abs_0f7a4_6 : decode cJ9_abs_0f7a4 6 = .ok (.goto 4, 3) := by decide +kernel
theorem dJ9_abs_0f7a4_9 : decode cJ9_abs_0f7a4 9 = .ok (.iload_n 0, 1) := by decide +kernel
theorem dJ9_abs_0f7a4_10 : decode cJ9_abs_0f7a4 10 = .ok (.ireturn, 1) := by decide +kernel
theorem dJ9_max_7cf53_0 : decode cJ9_max_7cf53 0 = .ok (.iload_n 0, 1) := by decide +kernel
theorem dJ9_max_7cf53_1 : decode cJ9_max_7cf53 1 = .ok (.iload_n 1, 1) := by decide +kernel
theorem dJ9_max_7cf53_2 : decode cJ9_max_7cf53 2 = .ok (.if_icmp .lt 7, 3) := by decide +kernel
theorem dJ9_max_7cf53_5 : decode cJ9_max_7cf53 5 = .ok (.iload_n 0, 1) := by decide +kernel
theorem dJ9_max_7cf53_6 : decode cJ9_max_7cf53 6 = .ok (.goto 4, 3) := by decide +kernel
theorem dJ9_max_7cf53_9 : decode cJ9_max_7cf53 9 = .ok (.iload_n 1, 1) := by decide +kernel
theorem dJ9_max_7cf53_10 : decode cJ9_max_7cf53 10 = .ok (.ireturn, 1) := by decide +kernel
theorem dJ9_min_7cf53_0 : decode cJ9_min_7cf53 0 = .ok (.iload_n 0, 1) := by decide +kernel
theorem dJ9_min_7cf53_1 : decode cJ9_min_7cf53 1 = .ok (.iload_n 1, 1) := by decide +kernel
theorem dJ9_min_7cf53_2 : decode cJ9_min_7cf53 2 = .ok (.if_icmp .gt 7, 3) := by decide +kernel
theorem dJ9_min_7cf53_5 : decode cJ9_min_7cf53 5 = .ok (.iload_n 0, 1) := by decide +kernel
theorem dJ9_min_7cf53_6 : decode cJ9_min_7cf53 6 = .ok (.goto 4, 3) := by decide +kernel
theorem dJ9_min_7cf53_9 : decode cJ9_min_7cf53 9 = .ok (.iload_n 1, 1) := by decide +kernel
theorem dJ9_min_7cf53_10 : decode cJ9_min_7cf53 10 = .ok (.ireturn, 1) := by decide +kernel
theorem dJ0_length_8abf5_0 : decode cJ0_length_8abf5 0 = .ok (.aload_n 0, 1) := by decide +kernel
theorem dJ0_length_8abf5_1 : decode cJ0_length_8abf5 1 = .ok (.getfield 9, 3) := by decide +kernel
theorem dJ0_length_8abf5_4 : decode cJ0_length_8abf5 4 = .ok (.arraylength, 1) := by decide +kernel
theorem dJ0_length_8abf5_5 : decode cJ0_length_8abf5 5 = .ok (.aload_n 0, 1) := by decide +kernel
theorem dJ0_length_8abf5_6 : decode cJ0_length_8abf5 6 = .ok (.invokevirtual 335, 3) := by decide +kernel
theorem dJ0_length_8abf5_9 : decode cJ0_length_8abf5 9 = .ok (.ishr, 1) := by decide +kernel
theorem dJ0_length_8abf5_10 : decode cJ0_length_8abf5 10 = .ok (.ireturn, 1) := by decide +kernel
theorem dJ0_charAt_5068e_0 : decode cJ0_charAt_5068e 0 = .ok (.aload_n 0, 1) := by decide +kernel
theorem dJ0_charAt_5068e_1 : decode cJ0_charAt_5068e 1 = .ok (.invokevirtual 492, 3) := by decide +kernel
theorem dJ0_charAt_5068e_4 : decode cJ0_charAt_5068e 4 = .ok (.ifCond .eq 12, 3) := by decide +kernel
theorem dJ0_charAt_5068e_7 : decode cJ0_charAt_5068e 7 = .ok (.aload_n 0, 1) := by decide +kernel
theorem dJ0_charAt_5068e_8 : decode cJ0_charAt_5068e 8 = .ok (.getfield 9, 3) := by decide +kernel
theorem dJ0_charAt_5068e_11 : decode cJ0_charAt_5068e 11 = .ok (.iload_n 1, 1) := by decide +kernel
theorem dJ0_charAt_5068e_12 : decode cJ0_charAt_5068e 12 = .ok (.invokestatic 495, 3) := by decide +kernel
theorem dJ0_charAt_5068e_15 : decode cJ0_charAt_5068e 15 = .ok (.ireturn, 1) := by decide +kernel
theorem dJ0_charAt_5068e_16 : decode cJ0_charAt_5068e 16 = .ok (.aload_n 0, 1) := by decide +kernel
theorem dJ0_charAt_5068e_17 : decode cJ0_charAt_5068e 17 = .ok (.getfield 9, 3) := by decide +kernel
theorem dJ0_charAt_5068e_20 : decode cJ0_charAt_5068e 20 = .ok (.iload_n 1, 1) := by decide +kernel
theorem dJ0_charAt_5068e_21 : decode cJ0_charAt_5068e 21 = .ok (.invokestatic 498, 3) := by decide +kernel
theorem dJ0_charAt_5068e_24 : decode cJ0_charAt_5068e 24 = .ok (.ireturn, 1) := by decide +kernel
theorem dJ0_coder_7d493_0 : decode cJ0_coder_7d493 0 = .ok (.getstatic 38, 3) := by decide +kernel
theorem dJ0_coder_7d493_3 : decode cJ0_coder_7d493 3 = .ok (.ifCond .eq 10, 3) := by decide +kernel
theorem dJ0_coder_7d493_6 : decode cJ0_coder_7d493 6 = .ok (.aload_n 0, 1) := by decide +kernel
theorem dJ0_coder_7d493_7 : decode cJ0_coder_7d493 7 = .ok (.getfield 15, 3) := by decide +kernel
theorem dJ0_coder_7d493_10 : decode cJ0_coder_7d493 10 = .ok (.goto 4, 3) := by decide +kernel
theorem dJ0_coder_7d493_13 : decode cJ0_coder_7d493 13 = .ok (.iconst 1, 1) := by decide +kernel
theorem dJ0_coder_7d493_14 : decode cJ0_coder_7d493 14 = .ok (.ireturn, 1) := by decide +kernel
theorem dJ0_isLatin1_aae02_0 : decode cJ0_isLatin1_aae02 0 = .ok (.getstatic 38, 3) := by decide +kernel
theorem dJ0_isLatin1_aae02_3 : decode cJ0_isLatin1_aae02 3 = .ok (.ifCond .eq 14, 3) := by decide +kernel
theorem dJ0_isLatin1_aae02_6 : decode cJ0_isLatin1_aae02 6 = .ok (.aload_n 0, 1) := by decide +kernel
theorem dJ0_isLatin1_aae02_7 : decode cJ0_isLatin1_aae02 7 = .ok (.getfield 15, 3) := by decide +kernel
theorem dJ0_isLatin1_aae02_10 : decode cJ0_isLatin1_aae02 10 = .ok (.ifCond .ne 7, 3) := by decide +kernel
theorem dJ0_isLatin1_aae02_13 : decode cJ0_isLatin1_aae02 13 = .ok (.iconst 1, 1) := by decide +kernel
theorem dJ0_isLatin1_aae02_14 : decode cJ0_isLatin1_aae02 14 = .ok (.goto 4, 3) := by decide +kernel
theorem dJ0_isLatin1_aae02_17 : decode cJ0_isLatin1_aae02 17 = .ok (.iconst 0, 1) := by decide +kernel
theorem dJ0_isLatin1_aae02_18 : decode cJ0_isLatin1_aae02 18 = .ok (.ireturn, 1) := by decide +kernel
theorem dJ0_checkIndex_df160_0 : decode cJ0_checkIndex_df160 0 = .ok (.iload_n 0, 1) := by decide +kernel
theorem dJ0_checkIndex_df160_1 : decode cJ0_checkIndex_df160 1 = .ok (.iload_n 1, 1) := by decide +kernel
theorem dJ0_checkIndex_df160_2 : decode cJ0_checkIndex_df160 2 = .ok (.getstatic 1053, 3) := by decide +kernel
theorem dJ0_checkIndex_df160_5 : decode cJ0_checkIndex_df160 5 = .ok (.invokestatic 1059, 3) := by decide +kernel
theorem dJ0_checkIndex_df160_8 : decode cJ0_checkIndex_df160 8 = .ok (.pop, 1) := by decide +kernel
theorem dJ0_checkIndex_df160_9 : decode cJ0_checkIndex_df160 9 = .ok (.return_, 1) := by decide +kernel
theorem dJ1_charAt_3b067_0 : decode cJ1_charAt_3b067 0 = .ok (.iload_n 1, 1) := by decide +kernel
theorem dJ1_charAt_3b067_1 : decode cJ1_charAt_3b067 1 = .ok (.aload_n 0, 1) := by decide +kernel
theorem dJ1_charAt_3b067_2 : decode cJ1_charAt_3b067 2 = .ok (.arraylength, 1) := by decide +kernel
theorem dJ1_charAt_3b067_3 : decode cJ1_charAt_3b067 3 = .ok (.invokestatic 9, 3) := by decide +kernel
theorem dJ1_charAt_3b067_6 : decode cJ1_charAt_3b067 6 = .ok (.aload_n 0, 1) := by decide +kernel
theorem dJ1_charAt_3b067_7 : decode cJ1_charAt_3b067 7 = .ok (.iload_n 1, 1) := by decide +kernel
theorem dJ1_charAt_3b067_8 : decode cJ1_charAt_3b067 8 = .ok (.baload, 1) := by decide +kernel
theorem dJ1_charAt_3b067_9 : decode cJ1_charAt_3b067 9 = .ok (.sipush 255, 3) := by decide +kernel
theorem dJ1_charAt_3b067_12 : decode cJ1_charAt_3b067 12 = .ok (.iand, 1) := by decide +kernel
theorem dJ1_charAt_3b067_13 : decode cJ1_charAt_3b067 13 = .ok (.i2c, 1) := by decide +kernel
theorem dJ1_charAt_3b067_14 : decode cJ1_charAt_3b067 14 = .ok (.ireturn, 1) := by decide +kernel
theorem dJ2_getChar_3b067_0 : decode cJ2_getChar_3b067 0 = .ok (.getstatic 44, 3) := by decide +kernel
theorem dJ2_getChar_3b067_3 : decode cJ2_getChar_3b067 3 = .ok (.ifCond .ne 25, 3) := by decide +kernel
theorem dJ2_getChar_3b067_6 : decode cJ2_getChar_3b067 6 = .ok (.iload_n 1, 1) := by decide +kernel
theorem dJ2_getChar_3b067_7 : decode cJ2_getChar_3b067 7 = .ok (.ifCond .lt 11, 3) := by decide +kernel
theorem dJ2_getChar_3b067_10 : decode cJ2_getChar_3b067 10 = .ok (.iload_n 1, 1) := by decide +kernel
theorem dJ2_getChar_3b067_11 : decode cJ2_getChar_3b067 11 = .ok (.aload_n 0, 1) := by decide +kernel
theorem dJ2_getChar_3b067_12 : decode cJ2_getChar_3b067 12 = .ok (.invokestatic 48, 3) := by decide +kernel
theorem dJ2_getChar_3b067_15 : decode cJ2_getChar_3b067 15 = .ok (.if_icmp .lt 13, 3) := by decide +kernel
theorem dJ2_getChar_3b067_18 : decode cJ2_getChar_3b067 18 = .ok (.new 52, 3) := by decide +kernel
theorem dJ2_getChar_3b067_21 : decode cJ2_getChar_3b067 21 = .ok (.dup, 1) := by decide +kernel
theorem dJ2_getChar_3b067_22 : decode cJ2_getChar_3b067 22 = .ok (.ldc 54, 2) := by decide +kernel
theorem dJ2_getChar_3b067_24 : decode cJ2_getChar_3b067 24 = .ok (.invokespecial 56, 3) := by decide +kernel
theorem dJ2_getChar_3b067_27 : decode cJ2_getChar_3b067 27 = .ok (.athrow, 1) := by decide +kernel
theorem dJ2_getChar_3b067_28 : decode cJ2_getChar_3b067 28 = .ok (.iload_n 1, 1) := by decide +kernel
theorem dJ2_getChar_3b067_29 : decode cJ2_getChar_3b067 29 = .ok (.iconst 1, 1) := by decide +kernel
theorem dJ2_getChar_3b067_30 : decode cJ2_getChar_3b067 30 = .ok (.ishl, 1) := by decide +kernel
theorem dJ2_getChar_3b067_31 : decode cJ2_getChar_3b067 31 = .ok (.istore_n 1, 1) := by decide +kernel
theorem dJ2_getChar_3b067_32 : decode cJ2_getChar_3b067 32 = .ok (.aload_n 0, 1) := by decide +kernel
theorem dJ2_getChar_3b067_33 : decode cJ2_getChar_3b067 33 = .ok (.iload_n 1, 1) := by decide +kernel
theorem dJ2_getChar_3b067_34 : decode cJ2_getChar_3b067 34 = .ok (.iinc 1 1, 3) := by decide +kernel
theorem dJ2_getChar_3b067_37 : decode cJ2_getChar_3b067 37 = .ok (.baload, 1) := by decide +kernel
theorem dJ2_getChar_3b067_38 : decode cJ2_getChar_3b067 38 = .ok (.sipush 255, 3) := by decide +kernel
theorem dJ2_getChar_3b067_41 : decode cJ2_getChar_3b067 41 = .ok (.iand, 1) := by decide +kernel
theorem dJ2_getChar_3b067_42 : decode cJ2_getChar_3b067 42 = .ok (.getstatic 59, 3) := by decide +kernel
theorem dJ2_getChar_3b067_45 : decode cJ2_getChar_3b067 45 = .ok (.ishl, 1) := by decide +kernel
theorem dJ2_getChar_3b067_46 : decode cJ2_getChar_3b067 46 = .ok (.aload_n 0, 1) := by decide +kernel
theorem dJ2_getChar_3b067_47 : decode cJ2_getChar_3b067 47 = .ok (.iload_n 1, 1) := by decide +kernel
theorem dJ2_getChar_3b067_48 : decode cJ2_getChar_3b067 48 = .ok (.baload, 1) := by decide +kernel
theorem dJ2_getChar_3b067_49 : decode cJ2_getChar_3b067 49 = .ok (.sipush 255, 3) := by decide +kernel
theorem dJ2_getChar_3b067_52 : decode cJ2_getChar_3b067 52 = .ok (.iand, 1) := by decide +kernel
theorem dJ2_getChar_3b067_53 : decode cJ2_getChar_3b067 53 = .ok (.getstatic 63, 3) := by decide +kernel
theorem dJ2_getChar_3b067_56 : decode cJ2_getChar_3b067 56 = .ok (.ishl, 1) := by decide +kernel
theorem dJ2_getChar_3b067_57 : decode cJ2_getChar_3b067 57 = .ok (.ior, 1) := by decide +kernel
theorem dJ2_getChar_3b067_58 : decode cJ2_getChar_3b067 58 = .ok (.i2c, 1) := by decide +kernel
theorem dJ2_getChar_3b067_59 : decode cJ2_getChar_3b067 59 = .ok (.ireturn, 1) := by decide +kernel
theorem dJ2_length_9d52b_0 : decode cJ2_length_9d52b 0 = .ok (.aload_n 0, 1) := by decide +kernel
theorem dJ2_length_9d52b_1 : decode cJ2_length_9d52b 1 = .ok (.arraylength, 1) := by decide +kernel
theorem dJ2_length_9d52b_2 : decode cJ2_length_9d52b 2 = .ok (.iconst 1, 1) := by decide +kernel
theorem dJ2_length_9d52b_3 : decode cJ2_length_9d52b 3 = .ok (.ishr, 1) := by decide +kernel
theorem dJ2_length_9d52b_4 : decode cJ2_length_9d52b 4 = .ok (.ireturn, 1) := by decide +kernel
theorem dJ2_charAt_3b067_0 : decode cJ2_charAt_3b067 0 = .ok (.iload_n 1, 1) := by decide +kernel
theorem dJ2_charAt_3b067_1 : decode cJ2_charAt_3b067 1 = .ok (.aload_n 0, 1) := by decide +kernel
theorem dJ2_charAt_3b067_2 : decode cJ2_charAt_3b067 2 = .ok (.invokestatic 67, 3) := by decide +kernel
theorem dJ2_charAt_3b067_5 : decode cJ2_charAt_3b067 5 = .ok (.aload_n 0, 1) := by decide +kernel
theorem dJ2_charAt_3b067_6 : decode cJ2_charAt_3b067 6 = .ok (.iload_n 1, 1) := by decide +kernel
theorem dJ2_charAt_3b067_7 : decode cJ2_charAt_3b067 7 = .ok (.invokestatic 71, 3) := by decide +kernel
theorem dJ2_charAt_3b067_10 : decode cJ2_charAt_3b067 10 = .ok (.ireturn, 1) := by decide +kernel
theorem dJ2_checkIndex_2214a_0 : decode cJ2_checkIndex_2214a 0 = .ok (.iload_n 0, 1) := by decide +kernel
theorem dJ2_checkIndex_2214a_1 : decode cJ2_checkIndex_2214a 1 = .ok (.aload_n 1, 1) := by decide +kernel
theorem dJ2_checkIndex_2214a_2 : decode cJ2_checkIndex_2214a 2 = .ok (.invokestatic 48, 3) := by decide +kernel
theorem dJ2_checkIndex_2214a_5 : decode cJ2_checkIndex_2214a 5 = .ok (.invokestatic 414, 3) := by decide +kernel
theorem dJ2_checkIndex_2214a_8 : decode cJ2_checkIndex_2214a 8 = .ok (.return_, 1) := by decide +kernel
theorem dJ7_fill_53178_0 : decode cJ7_fill_53178 0 = .ok (.iconst 0, 1) := by decide +kernel
theorem dJ7_fill_53178_1 : decode cJ7_fill_53178 1 = .ok (.istore_n 2, 1) := by decide +kernel
theorem dJ7_fill_53178_2 : decode cJ7_fill_53178 2 = .ok (.aload_n 0, 1) := by decide +kernel
theorem dJ7_fill_53178_3 : decode cJ7_fill_53178 3 = .ok (.arraylength, 1) := by decide +kernel
theorem dJ7_fill_53178_4 : decode cJ7_fill_53178 4 = .ok (.istore_n 3, 1) := by decide +kernel
theorem dJ7_fill_53178_5 : decode cJ7_fill_53178 5 = .ok (.iload_n 2, 1) := by decide +kernel
theorem dJ7_fill_53178_6 : decode cJ7_fill_53178 6 = .ok (.iload_n 3, 1) := by decide +kernel
theorem dJ7_fill_53178_7 : decode cJ7_fill_53178 7 = .ok (.if_icmp .ge 13, 3) := by decide +kernel
theorem dJ7_fill_53178_10 : decode cJ7_fill_53178 10 = .ok (.aload_n 0, 1) := by decide +kernel
theorem dJ7_fill_53178_11 : decode cJ7_fill_53178 11 = .ok (.iload_n 2, 1) := by decide +kernel
theorem dJ7_fill_53178_12 : decode cJ7_fill_53178 12 = .ok (.iload_n 1, 1) := by decide +kernel
theorem dJ7_fill_53178_13 : decode cJ7_fill_53178 13 = .ok (.iastore, 1) := by decide +kernel
theorem dJ7_fill_53178_14 : decode cJ7_fill_53178 14 = .ok (.iinc 2 1, 3) := by decide +kernel
theorem dJ7_fill_53178_17 : decode cJ7_fill_53178 17 = .ok (.goto (-12), 3) := by decide +kernel
theorem dJ7_fill_53178_20 : decode cJ7_fill_53178 20 = .ok (.return_, 1) := by decide +kernel
theorem dJ3_checkIndex_8e157_0 : decode cJ3_checkIndex_8e157 0 = .ok (.iload_n 0, 1) := by decide +kernel
theorem dJ3_checkIndex_8e157_1 : decode cJ3_checkIndex_8e157 1 = .ok (.ifCond .lt 8, 3) := by decide +kernel
theorem dJ3_checkIndex_8e157_4 : decode cJ3_checkIndex_8e157 4 = .ok (.iload_n 0, 1) := by decide +kernel
theorem dJ3_checkIndex_8e157_5 : decode cJ3_checkIndex_8e157 5 = .ok (.iload_n 1, 1) := by decide +kernel
theorem dJ3_checkIndex_8e157_6 : decode cJ3_checkIndex_8e157 6 = .ok (.if_icmp .lt 10, 3) := by decide +kernel
theorem dJ3_checkIndex_8e157_9 : decode cJ3_checkIndex_8e157 9 = .ok (.aload_n 2, 1) := by decide +kernel
theorem dJ3_checkIndex_8e157_10 : decode cJ3_checkIndex_8e157 10 = .ok (.iload_n 0, 1) := by decide +kernel
theorem dJ3_checkIndex_8e157_11 : decode cJ3_checkIndex_8e157 11 = .ok (.iload_n 1, 1) := by decide +kernel
theorem dJ3_checkIndex_8e157_12 : decode cJ3_checkIndex_8e157 12 = .ok (.invokestatic 95, 3) := by decide +kernel
theorem dJ3_checkIndex_8e157_15 : decode cJ3_checkIndex_8e157 15 = .ok (.athrow, 1) := by decide +kernel
theorem dJ3_checkIndex_8e157_16 : decode cJ3_checkIndex_8e157 16 = .ok (.iload_n 0, 1) := by decide +kernel
theorem dJ3_checkIndex_8e157_17 : decode cJ3_checkIndex_8e157 17 = .ok (.ireturn, 1) := by decide +kernel
