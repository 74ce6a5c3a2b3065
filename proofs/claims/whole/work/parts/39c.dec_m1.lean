theorem dX11_pane_27 : decode cX11_pane 27 = .ok (.aload_n 0, 1) := by decide +kernel
theorem dX11_pane_28 : decode cX11_pane 28 = .ok (.iload_n 2, 1) := by decide +kernel
theorem dX11_pane_29 : decode cX11_pane 29 = .ok (.iconst 0, 1) := by decide +kernel
theorem dX11_pane_30 : decode cX11_pane 30 = .ok (.iconst 5, 1) := by decide +kernel
theorem dX11_pane_31 : decode cX11_pane 31 = .ok (.invokestatic 119, 3) := by decide +kernel
theorem dX11_pane_34 : decode cX11_pane 34 = .ok (.ifCond .ne 7, 3) := by decide +kernel
theorem dX11_pane_37 : decode cX11_pane 37 = .ok (.iconst 1, 1) := by decide +kernel
theorem dX11_pane_38 : decode cX11_pane 38 = .ok (.goto 4, 3) := by decide +kernel
theorem dX11_pane_41 : decode cX11_pane 41 = .ok (.iconst 0, 1) := by decide +kernel
theorem dX11_pane_42 : decode cX11_pane 42 = .ok (.iconst 2, 1) := by decide +kernel
theorem dX11_pane_43 : decode cX11_pane 43 = .ok (.iconst 2, 1) := by decide +kernel
theorem dX11_pane_44 : decode cX11_pane 44 = .ok (.invokevirtual 158, 3) := by decide +kernel
theorem dX11_pane_47 : decode cX11_pane 47 = .ok (.ifCond .eq 5, 3) := by decide +kernel
theorem dX11_pane_50 : decode cX11_pane 50 = .ok (.iconst 0, 1) := by decide +kernel
theorem dX11_pane_51 : decode cX11_pane 51 = .ok (.ireturn, 1) := by decide +kernel
theorem dX11_pane_52 : decode cX11_pane 52 = .ok (.iload_n 2, 1) := by decide +kernel
theorem dX11_pane_53 : decode cX11_pane 53 = .ok (.iconst 4, 1) := by decide +kernel
theorem dX11_pane_54 : decode cX11_pane 54 = .ok (.if_icmp .ge 14, 3) := by decide +kernel
theorem dX11_pane_57 : decode cX11_pane 57 = .ok (.aload_n 0, 1) := by decide +kernel
theorem dX11_pane_58 : decode cX11_pane 58 = .ok (.getfield 31, 3) := by decide +kernel
theorem dX11_pane_61 : decode cX11_pane 61 = .ok (.iload_n 1, 1) := by decide +kernel
theorem dX11_pane_62 : decode cX11_pane 62 = .ok (.aaload, 1) := by decide +kernel
theorem dX11_pane_63 : decode cX11_pane 63 = .ok (.iload_n 2, 1) := by decide +kernel
theorem dX11_pane_64 : decode cX11_pane 64 = .ok (.iaload, 1) := by decide +kernel
theorem dX11_pane_65 : decode cX11_pane 65 = .ok (.goto 31, 3) := by decide +kernel
theorem dX11_pane_68 : decode cX11_pane 68 = .ok (.iload_n 2, 1) := by decide +kernel
theorem dX11_pane_69 : decode cX11_pane 69 = .ok (.iconst 4, 1) := by decide +kernel
theorem dX11_pane_70 : decode cX11_pane 70 = .ok (.if_icmp .ne 14, 3) := by decide +kernel
theorem dX11_pane_73 : decode cX11_pane 73 = .ok (.aload_n 0, 1) := by decide +kernel
theorem dX11_pane_74 : decode cX11_pane 74 = .ok (.getfield 67, 3) := by decide +kernel
theorem dX11_pane_77 : decode cX11_pane 77 = .ok (.iload_n 1, 1) := by decide +kernel
theorem dX11_pane_78 : decode cX11_pane 78 = .ok (.invokestatic 240, 3) := by decide +kernel
theorem dX11_pane_81 : decode cX11_pane 81 = .ok (.goto 15, 3) := by decide +kernel
theorem dX11_pane_84 : decode cX11_pane 84 = .ok (.aload_n 0, 1) := by decide +kernel
theorem dX11_pane_85 : decode cX11_pane 85 = .ok (.getfield 67, 3) := by decide +kernel
theorem dX11_pane_88 : decode cX11_pane 88 = .ok (.sipush 2681, 3) := by decide +kernel
theorem dX11_pane_91 : decode cX11_pane 91 = .ok (.iaload, 1) := by decide +kernel
theorem dX11_pane_92 : decode cX11_pane 92 = .ok (.iload_n 1, 1) := by decide +kernel
theorem dX11_pane_93 : decode cX11_pane 93 = .ok (.ishr, 1) := by decide +kernel
theorem dX11_pane_94 : decode cX11_pane 94 = .ok (.iconst 1, 1) := by decide +kernel
theorem dX11_pane_95 : decode cX11_pane 95 = .ok (.iand, 1) := by decide +kernel
theorem dX11_pane_96 : decode cX11_pane 96 = .ok (.ireturn, 1) := by decide +kernel
theorem dX11_noCell_0 : decode cX11_noCell 0 = .ok (.aload_n 0, 1) := by decide +kernel
theorem dX11_noCell_1 : decode cX11_noCell 1 = .ok (.aload_n 0, 1) := by decide +kernel
theorem dX11_noCell_2 : decode cX11_noCell 2 = .ok (.iload_n 1, 1) := by decide +kernel
theorem dX11_noCell_3 : decode cX11_noCell 3 = .ok (.invokevirtual 315, 3) := by decide +kernel
theorem dX11_noCell_6 : decode cX11_noCell 6 = .ok (.ifCond .ne 7, 3) := by decide +kernel
theorem dX11_noCell_9 : decode cX11_noCell 9 = .ok (.iconst 1, 1) := by decide +kernel
theorem dX11_noCell_10 : decode cX11_noCell 10 = .ok (.goto 4, 3) := by decide +kernel
theorem dX11_noCell_13 : decode cX11_noCell 13 = .ok (.iconst 0, 1) := by decide +kernel
theorem dX11_noCell_14 : decode cX11_noCell 14 = .ok (.iconst 2, 1) := by decide +kernel
theorem dX11_noCell_15 : decode cX11_noCell 15 = .ok (.iconst 1, 1) := by decide +kernel
theorem dX11_noCell_16 : decode cX11_noCell 16 = .ok (.invokevirtual 158, 3) := by decide +kernel
theorem dX11_noCell_19 : decode cX11_noCell 19 = .ok (.ifCond .ne 27, 3) := by decide +kernel
theorem dX11_noCell_22 : decode cX11_noCell 22 = .ok (.aload_n 0, 1) := by decide +kernel
theorem dX11_noCell_23 : decode cX11_noCell 23 = .ok (.aload_n 0, 1) := by decide +kernel
theorem dX11_noCell_24 : decode cX11_noCell 24 = .ok (.iload_n 1, 1) := by decide +kernel
theorem dX11_noCell_25 : decode cX11_noCell 25 = .ok (.iload_n 2, 1) := by decide +kernel
theorem dX11_noCell_26 : decode cX11_noCell 26 = .ok (.iload_n 3, 1) := by decide +kernel
theorem dX11_noCell_27 : decode cX11_noCell 27 = .ok (.invokevirtual 237, 3) := by decide +kernel
theorem dX11_noCell_30 : decode cX11_noCell 30 = .ok (.ifCond .ne 7, 3) := by decide +kernel
theorem dX11_noCell_33 : decode cX11_noCell 33 = .ok (.iconst 1, 1) := by decide +kernel
theorem dX11_noCell_34 : decode cX11_noCell 34 = .ok (.goto 4, 3) := by decide +kernel
theorem dX11_noCell_37 : decode cX11_noCell 37 = .ok (.iconst 0, 1) := by decide +kernel
theorem dX11_noCell_38 : decode cX11_noCell 38 = .ok (.iconst 1, 1) := by decide +kernel
theorem dX11_noCell_39 : decode cX11_noCell 39 = .ok (.iconst 0, 1) := by decide +kernel
theorem dX11_noCell_40 : decode cX11_noCell 40 = .ok (.invokevirtual 158, 3) := by decide +kernel
theorem dX11_noCell_43 : decode cX11_noCell 43 = .ok (.ifCond .eq 7, 3) := by decide +kernel
theorem dX11_noCell_46 : decode cX11_noCell 46 = .ok (.iconst 1, 1) := by decide +kernel
theorem dX11_noCell_47 : decode cX11_noCell 47 = .ok (.goto 4, 3) := by decide +kernel
theorem dX11_noCell_50 : decode cX11_noCell 50 = .ok (.iconst 0, 1) := by decide +kernel
theorem dX11_noCell_51 : decode cX11_noCell 51 = .ok (.ireturn, 1) := by decide +kernel
theorem dX11_shows_0 : decode cX11_shows 0 = .ok (.aload_n 0, 1) := by decide +kernel
theorem dX11_shows_1 : decode cX11_shows 1 = .ok (.iconst 0, 1) := by decide +kernel
theorem dX11_shows_2 : decode cX11_shows 2 = .ok (.putfield 85, 3) := by decide +kernel
theorem dX11_shows_5 : decode cX11_shows 5 = .ok (.aload_n 0, 1) := by decide +kernel
theorem dX11_shows_6 : decode cX11_shows 6 = .ok (.iload_n 1, 1) := by decide +kernel
theorem dX11_shows_7 : decode cX11_shows 7 = .ok (.iload_n 2, 1) := by decide +kernel
theorem dX11_shows_8 : decode cX11_shows 8 = .ok (.iload_n 3, 1) := by decide +kernel
theorem dX11_shows_9 : decode cX11_shows 9 = .ok (.invokevirtual 318, 3) := by decide +kernel
theorem dX11_shows_12 : decode cX11_shows 12 = .ok (.ifCond .eq 5, 3) := by decide +kernel
theorem dX11_shows_15 : decode cX11_shows 15 = .ok (.iconst 0, 1) := by decide +kernel
theorem dX11_shows_16 : decode cX11_shows 16 = .ok (.ireturn, 1) := by decide +kernel
theorem dX11_shows_17 : decode cX11_shows 17 = .ok (.aload_n 0, 1) := by decide +kernel
theorem dX11_shows_18 : decode cX11_shows 18 = .ok (.getfield 67, 3) := by decide +kernel
theorem dX11_shows_21 : decode cX11_shows 21 = .ok (.iload_n 1, 1) := by decide +kernel
theorem dX11_shows_22 : decode cX11_shows 22 = .ok (.iload_n 2, 1) := by decide +kernel
theorem dX11_shows_23 : decode cX11_shows 23 = .ok (.iload_n 3, 1) := by decide +kernel
theorem dX11_shows_24 : decode cX11_shows 24 = .ok (.invokestatic 321, 3) := by decide +kernel
theorem dX11_shows_27 : decode cX11_shows 27 = .ok (.iconst 0, 1) := by decide +kernel
theorem dX11_shows_28 : decode cX11_shows 28 = .ok (.invokestatic 244, 3) := by decide +kernel
theorem dX11_shows_31 : decode cX11_shows 31 = .ok (.ireturn, 1) := by decide +kernel
theorem dX11_deep_0 : decode cX11_deep 0 = .ok (.aload_n 0, 1) := by decide +kernel
theorem dX11_deep_1 : decode cX11_deep 1 = .ok (.iconst 0, 1) := by decide +kernel
theorem dX11_deep_2 : decode cX11_deep 2 = .ok (.putfield 85, 3) := by decide +kernel
theorem dX11_deep_5 : decode cX11_deep 5 = .ok (.aload_n 0, 1) := by decide +kernel
theorem dX11_deep_6 : decode cX11_deep 6 = .ok (.iload_n 1, 1) := by decide +kernel
theorem dX11_deep_7 : decode cX11_deep 7 = .ok (.iload_n 2, 1) := by decide +kernel
theorem dX11_deep_8 : decode cX11_deep 8 = .ok (.iload_n 3, 1) := by decide +kernel
theorem dX11_deep_9 : decode cX11_deep 9 = .ok (.invokevirtual 318, 3) := by decide +kernel
theorem dX11_deep_12 : decode cX11_deep 12 = .ok (.ifCond .eq 5, 3) := by decide +kernel
theorem dX11_deep_15 : decode cX11_deep 15 = .ok (.iconst 0, 1) := by decide +kernel
theorem dX11_deep_16 : decode cX11_deep 16 = .ok (.ireturn, 1) := by decide +kernel
theorem dX11_deep_17 : decode cX11_deep 17 = .ok (.aload_n 0, 1) := by decide +kernel
theorem dX11_deep_18 : decode cX11_deep 18 = .ok (.getfield 67, 3) := by decide +kernel
theorem dX11_deep_21 : decode cX11_deep 21 = .ok (.sipush 2400, 3) := by decide +kernel
theorem dX11_deep_24 : decode cX11_deep 24 = .ok (.iload_n 1, 1) := by decide +kernel
theorem dX11_deep_25 : decode cX11_deep 25 = .ok (.iload_n 2, 1) := by decide +kernel
theorem dX11_deep_26 : decode cX11_deep 26 = .ok (.iload_n 3, 1) := by decide +kernel
theorem dX11_deep_27 : decode cX11_deep 27 = .ok (.invokestatic 321, 3) := by decide +kernel
theorem dX11_deep_30 : decode cX11_deep 30 = .ok (.iadd, 1) := by decide +kernel
theorem dX11_deep_31 : decode cX11_deep 31 = .ok (.iaload, 1) := by decide +kernel
theorem dX11_deep_32 : decode cX11_deep 32 = .ok (.ireturn, 1) := by decide +kernel
theorem dX11_film_0 : decode cX11_film 0 = .ok (.aload_n 0, 1) := by decide +kernel
theorem dX11_film_1 : decode cX11_film 1 = .ok (.iconst 0, 1) := by decide +kernel
theorem dX11_film_2 : decode cX11_film 2 = .ok (.putfield 85, 3) := by decide +kernel
theorem dX11_film_5 : decode cX11_film 5 = .ok (.aload_n 0, 1) := by decide +kernel
theorem dX11_film_6 : decode cX11_film 6 = .ok (.iload_n 1, 1) := by decide +kernel
theorem dX11_film_7 : decode cX11_film 7 = .ok (.iload_n 2, 1) := by decide +kernel
theorem dX11_film_8 : decode cX11_film 8 = .ok (.iload_n 3, 1) := by decide +kernel
theorem dX11_film_9 : decode cX11_film 9 = .ok (.invokevirtual 318, 3) := by decide +kernel
theorem dX11_film_12 : decode cX11_film 12 = .ok (.ifCond .eq 5, 3) := by decide +kernel
theorem dX11_film_15 : decode cX11_film 15 = .ok (.iconst 0, 1) := by decide +kernel
theorem dX11_film_16 : decode cX11_film 16 = .ok (.ireturn, 1) := by decide +kernel
theorem dX11_film_17 : decode cX11_film 17 = .ok (.iload 4, 2) := by decide +kernel
theorem dX11_film_19 : decode cX11_film 19 = .ok (.bipush 30, 2) := by decide +kernel
theorem dX11_film_21 : decode cX11_film 21 = .ok (.if_icmp .lt 7, 3) := by decide +kernel
theorem dX11_film_24 : decode cX11_film 24 = .ok (.iconst 0, 1) := by decide +kernel
theorem dX11_film_25 : decode cX11_film 25 = .ok (.goto 18, 3) := by decide +kernel
theorem dX11_film_28 : decode cX11_film 28 = .ok (.aload_n 0, 1) := by decide +kernel
theorem dX11_film_29 : decode cX11_film 29 = .ok (.getfield 67, 3) := by decide +kernel
theorem dX11_film_32 : decode cX11_film 32 = .ok (.iload_n 1, 1) := by decide +kernel
theorem dX11_film_33 : decode cX11_film 33 = .ok (.iload_n 2, 1) := by decide +kernel
theorem dX11_film_34 : decode cX11_film 34 = .ok (.iload_n 3, 1) := by decide +kernel
theorem dX11_film_35 : decode cX11_film 35 = .ok (.invokestatic 321, 3) := by decide +kernel
theorem dX11_film_38 : decode cX11_film 38 = .ok (.iload 4, 2) := by decide +kernel
theorem dX11_film_40 : decode cX11_film 40 = .ok (.invokestatic 244, 3) := by decide +kernel
theorem dX11_film_43 : decode cX11_film 43 = .ok (.ireturn, 1) := by decide +kernel
theorem dX11_films_0 : decode cX11_films 0 = .ok (.aload_n 0, 1) := by decide +kernel
theorem dX11_films_1 : decode cX11_films 1 = .ok (.iconst 0, 1) := by decide +kernel
theorem dX11_films_2 : decode cX11_films 2 = .ok (.putfield 85, 3) := by decide +kernel
theorem dX11_films_5 : decode cX11_films 5 = .ok (.aload_n 0, 1) := by decide +kernel
theorem dX11_films_6 : decode cX11_films 6 = .ok (.iload_n 1, 1) := by decide +kernel
theorem dX11_films_7 : decode cX11_films 7 = .ok (.iconst 1, 1) := by decide +kernel
theorem dX11_films_8 : decode cX11_films 8 = .ok (.sipush 200, 3) := by decide +kernel
theorem dX11_films_11 : decode cX11_films 11 = .ok (.invokestatic 119, 3) := by decide +kernel
theorem dX11_films_14 : decode cX11_films 14 = .ok (.ifCond .eq 12, 3) := by decide +kernel
theorem dX11_films_17 : decode cX11_films 17 = .ok (.iload_n 2, 1) := by decide +kernel
theorem dX11_films_18 : decode cX11_films 18 = .ok (.iconst 0, 1) := by decide +kernel
theorem dX11_films_19 : decode cX11_films 19 = .ok (.iconst 1, 1) := by decide +kernel
theorem dX11_films_20 : decode cX11_films 20 = .ok (.invokestatic 119, 3) := by decide +kernel
theorem dX11_films_23 : decode cX11_films 23 = .ok (.ifCond .ne 7, 3) := by decide +kernel
theorem dX11_films_26 : decode cX11_films 26 = .ok (.iconst 1, 1) := by decide +kernel
theorem dX11_films_27 : decode cX11_films 27 = .ok (.goto 4, 3) := by decide +kernel
theorem dX11_films_30 : decode cX11_films 30 = .ok (.iconst 0, 1) := by decide +kernel
theorem dX11_films_31 : decode cX11_films 31 = .ok (.iconst 1, 1) := by decide +kernel
theorem dX11_films_32 : decode cX11_films 32 = .ok (.iconst 2, 1) := by decide +kernel
theorem dX11_films_33 : decode cX11_films 33 = .ok (.invokevirtual 158, 3) := by decide +kernel
theorem dX11_films_36 : decode cX11_films 36 = .ok (.ifCond .eq 5, 3) := by decide +kernel
theorem dX11_films_39 : decode cX11_films 39 = .ok (.iconst 0, 1) := by decide +kernel
theorem dX11_films_40 : decode cX11_films 40 = .ok (.ireturn, 1) := by decide +kernel
theorem dX11_films_41 : decode cX11_films 41 = .ok (.iload_n 2, 1) := by decide +kernel
theorem dX11_films_42 : decode cX11_films 42 = .ok (.ifCond .ne 14, 3) := by decide +kernel
theorem dX11_films_45 : decode cX11_films 45 = .ok (.aload_n 0, 1) := by decide +kernel
theorem dX11_films_46 : decode cX11_films 46 = .ok (.getfield 67, 3) := by decide +kernel
theorem dX11_films_49 : decode cX11_films 49 = .ok (.sipush 2480, 3) := by decide +kernel
theorem dX11_films_52 : decode cX11_films 52 = .ok (.iload_n 1, 1) := by decide +kernel
theorem dX11_films_53 : decode cX11_films 53 = .ok (.iadd, 1) := by decide +kernel
theorem dX11_films_54 : decode cX11_films 54 = .ok (.iaload, 1) := by decide +kernel
theorem dX11_films_55 : decode cX11_films 55 = .ok (.ireturn, 1) := by decide +kernel
theorem dX11_films_56 : decode cX11_films 56 = .ok (.iconst 0, 1) := by decide +kernel
theorem dX11_films_57 : decode cX11_films 57 = .ok (.istore_n 3, 1) := by decide +kernel
theorem dX11_films_58 : decode cX11_films 58 = .ok (.iconst 0, 1) := by decide +kernel
theorem dX11_films_59 : decode cX11_films 59 = .ok (.istore 4, 2) := by decide +kernel
theorem dX11_films_61 : decode cX11_films 61 = .ok (.iload 4, 2) := by decide +kernel
theorem dX11_films_63 : decode cX11_films 63 = .ok (.bipush 16, 2) := by decide +kernel
theorem dX11_films_65 : decode cX11_films 65 = .ok (.aload_n 0, 1) := by decide +kernel
theorem dX11_films_66 : decode cX11_films 66 = .ok (.getfield 23, 3) := by decide +kernel
theorem dX11_films_69 : decode cX11_films 69 = .ok (.iconst 0, 1) := by decide +kernel
theorem dX11_films_70 : decode cX11_films 70 = .ok (.iaload, 1) := by decide +kernel
theorem dX11_films_71 : decode cX11_films 71 = .ok (.imul, 1) := by decide +kernel
theorem dX11_films_72 : decode cX11_films 72 = .ok (.if_icmp .ge 22, 3) := by decide +kernel
theorem dX11_films_75 : decode cX11_films 75 = .ok (.iload_n 3, 1) := by decide +kernel
theorem dX11_films_76 : decode cX11_films 76 = .ok (.aload_n 0, 1) := by decide +kernel
theorem dX11_films_77 : decode cX11_films 77 = .ok (.getfield 67, 3) := by decide +kernel
theorem dX11_films_80 : decode cX11_films 80 = .ok (.iload 4, 2) := by decide +kernel
theorem dX11_films_82 : decode cX11_films 82 = .ok (.iload_n 1, 1) := by decide +kernel
theorem dX11_films_83 : decode cX11_films 83 = .ok (.invokestatic 324, 3) := by decide +kernel
theorem dX11_films_86 : decode cX11_films 86 = .ok (.iadd, 1) := by decide +kernel
theorem dX11_films_87 : decode cX11_films 87 = .ok (.istore_n 3, 1) := by decide +kernel
theorem dX11_films_88 : decode cX11_films 88 = .ok (.iinc 4 1, 3) := by decide +kernel
theorem dX11_films_91 : decode cX11_films 91 = .ok (.goto (-30), 3) := by decide +kernel
theorem dX11_films_94 : decode cX11_films 94 = .ok (.iload_n 3, 1) := by decide +kernel
theorem dX11_films_95 : decode cX11_films 95 = .ok (.ireturn, 1) := by decide +kernel
theorem dX11_have_0 : decode cX11_have 0 = .ok (.aload_n 0, 1) := by decide +kernel
theorem dX11_have_1 : decode cX11_have 1 = .ok (.iconst 0, 1) := by decide +kernel
theorem dX11_have_2 : decode cX11_have 2 = .ok (.putfield 85, 3) := by decide +kernel
theorem dX11_have_5 : decode cX11_have 5 = .ok (.aload_n 0, 1) := by decide +kernel
theorem dX11_have_6 : decode cX11_have 6 = .ok (.aload_n 0, 1) := by decide +kernel
theorem dX11_have_7 : decode cX11_have 7 = .ok (.iload_n 1, 1) := by decide +kernel
theorem dX11_have_8 : decode cX11_have 8 = .ok (.invokevirtual 315, 3) := by decide +kernel
theorem dX11_have_11 : decode cX11_have 11 = .ok (.ifCond .ne 7, 3) := by decide +kernel
theorem dX11_have_14 : decode cX11_have 14 = .ok (.iconst 1, 1) := by decide +kernel
theorem dX11_have_15 : decode cX11_have 15 = .ok (.goto 4, 3) := by decide +kernel
theorem dX11_have_18 : decode cX11_have 18 = .ok (.iconst 0, 1) := by decide +kernel
theorem dX11_have_19 : decode cX11_have 19 = .ok (.iconst 1, 1) := by decide +kernel
theorem dX11_have_20 : decode cX11_have 20 = .ok (.iconst 1, 1) := by decide +kernel
theorem dX11_have_21 : decode cX11_have 21 = .ok (.invokevirtual 158, 3) := by decide +kernel
theorem dX11_have_24 : decode cX11_have 24 = .ok (.ifCond .ne 28, 3) := by decide +kernel
theorem dX11_have_27 : decode cX11_have 27 = .ok (.aload_n 0, 1) := by decide +kernel
theorem dX11_have_28 : decode cX11_have 28 = .ok (.iload_n 2, 1) := by decide +kernel
theorem dX11_have_29 : decode cX11_have 29 = .ok (.iconst 1, 1) := by decide +kernel
theorem dX11_have_30 : decode cX11_have 30 = .ok (.sipush 200, 3) := by decide +kernel
theorem dX11_have_33 : decode cX11_have 33 = .ok (.invokestatic 119, 3) := by decide +kernel
theorem dX11_have_36 : decode cX11_have 36 = .ok (.ifCond .ne 7, 3) := by decide +kernel
theorem dX11_have_39 : decode cX11_have 39 = .ok (.iconst 1, 1) := by decide +kernel
theorem dX11_have_40 : decode cX11_have 40 = .ok (.goto 4, 3) := by decide +kernel
theorem dX11_have_43 : decode cX11_have 43 = .ok (.iconst 0, 1) := by decide +kernel
theorem dX11_have_44 : decode cX11_have 44 = .ok (.iconst 2, 1) := by decide +kernel
theorem dX11_have_45 : decode cX11_have 45 = .ok (.iconst 2, 1) := by decide +kernel
theorem dX11_have_46 : decode cX11_have 46 = .ok (.invokevirtual 158, 3) := by decide +kernel
theorem dX11_have_49 : decode cX11_have 49 = .ok (.ifCond .eq 5, 3) := by decide +kernel
theorem dX11_have_52 : decode cX11_have 52 = .ok (.iconst 0, 1) := by decide +kernel
theorem dX11_have_53 : decode cX11_have 53 = .ok (.ireturn, 1) := by decide +kernel
theorem dX11_have_54 : decode cX11_have 54 = .ok (.iconst 0, 1) := by decide +kernel
theorem dX11_have_55 : decode cX11_have 55 = .ok (.istore_n 3, 1) := by decide +kernel
theorem dX11_have_56 : decode cX11_have 56 = .ok (.iconst 0, 1) := by decide +kernel
theorem dX11_have_57 : decode cX11_have 57 = .ok (.istore 4, 2) := by decide +kernel
theorem dX11_have_59 : decode cX11_have 59 = .ok (.iload 4, 2) := by decide +kernel
theorem dX11_have_61 : decode cX11_have 61 = .ok (.bipush 16, 2) := by decide +kernel
theorem dX11_have_63 : decode cX11_have 63 = .ok (.if_icmp .ge 38, 3) := by decide +kernel
theorem dX11_have_66 : decode cX11_have 66 = .ok (.iload_n 3, 1) := by decide +kernel
theorem dX11_have_67 : decode cX11_have 67 = .ok (.aload_n 0, 1) := by decide +kernel
theorem dX11_have_68 : decode cX11_have 68 = .ok (.getfield 67, 3) := by decide +kernel
theorem dX11_have_71 : decode cX11_have 71 = .ok (.bipush 16, 2) := by decide +kernel
theorem dX11_have_73 : decode cX11_have 73 = .ok (.iload_n 1, 1) := by decide +kernel
theorem dX11_have_74 : decode cX11_have 74 = .ok (.imul, 1) := by decide +kernel
theorem dX11_have_75 : decode cX11_have 75 = .ok (.iload 4, 2) := by decide +kernel
theorem dX11_have_77 : decode cX11_have 77 = .ok (.iadd, 1) := by decide +kernel
theorem dX11_have_78 : decode cX11_have 78 = .ok (.iload_n 2, 1) := by decide +kernel
theorem dX11_have_79 : decode cX11_have 79 = .ok (.invokestatic 324, 3) := by decide +kernel
theorem dX11_have_82 : decode cX11_have 82 = .ok (.ifCond .le 10, 3) := by decide +kernel
theorem dX11_have_85 : decode cX11_have 85 = .ok (.iconst 1, 1) := by decide +kernel
theorem dX11_have_86 : decode cX11_have 86 = .ok (.iload 4, 2) := by decide +kernel
theorem dX11_have_88 : decode cX11_have 88 = .ok (.ishl, 1) := by decide +kernel
theorem dX11_have_89 : decode cX11_have 89 = .ok (.goto 4, 3) := by decide +kernel
theorem dX11_have_92 : decode cX11_have 92 = .ok (.iconst 0, 1) := by decide +kernel
theorem dX11_have_93 : decode cX11_have 93 = .ok (.ior, 1) := by decide +kernel
theorem dX11_have_94 : decode cX11_have 94 = .ok (.istore_n 3, 1) := by decide +kernel
theorem dX11_have_95 : decode cX11_have 95 = .ok (.iinc 4 1, 3) := by decide +kernel
theorem dX11_have_98 : decode cX11_have 98 = .ok (.goto (-39), 3) := by decide +kernel
theorem dX11_have_101 : decode cX11_have 101 = .ok (.iload_n 3, 1) := by decide +kernel
theorem dX11_have_102 : decode cX11_have 102 = .ok (.ireturn, 1) := by decide +kernel
theorem dX11_showing_0 : decode cX11_showing 0 = .ok (.aload_n 0, 1) := by decide +kernel
theorem dX11_showing_1 : decode cX11_showing 1 = .ok (.iconst 0, 1) := by decide +kernel
theorem dX11_showing_2 : decode cX11_showing 2 = .ok (.putfield 85, 3) := by decide +kernel
theorem dX11_showing_5 : decode cX11_showing 5 = .ok (.aload_n 0, 1) := by decide +kernel
theorem dX11_showing_6 : decode cX11_showing 6 = .ok (.aload_n 0, 1) := by decide +kernel
theorem dX11_showing_7 : decode cX11_showing 7 = .ok (.iload_n 1, 1) := by decide +kernel
theorem dX11_showing_8 : decode cX11_showing 8 = .ok (.invokevirtual 315, 3) := by decide +kernel
theorem dX11_showing_11 : decode cX11_showing 11 = .ok (.ifCond .ne 7, 3) := by decide +kernel
theorem dX11_showing_14 : decode cX11_showing 14 = .ok (.iconst 1, 1) := by decide +kernel
theorem dX11_showing_15 : decode cX11_showing 15 = .ok (.goto 4, 3) := by decide +kernel
theorem dX11_showing_18 : decode cX11_showing 18 = .ok (.iconst 0, 1) := by decide +kernel
theorem dX11_showing_19 : decode cX11_showing 19 = .ok (.iconst 1, 1) := by decide +kernel
theorem dX11_showing_20 : decode cX11_showing 20 = .ok (.iconst 1, 1) := by decide +kernel
theorem dX11_showing_21 : decode cX11_showing 21 = .ok (.invokevirtual 158, 3) := by decide +kernel
theorem dX11_showing_24 : decode cX11_showing 24 = .ok (.ifCond .ne 28, 3) := by decide +kernel
theorem dX11_showing_27 : decode cX11_showing 27 = .ok (.aload_n 0, 1) := by decide +kernel
theorem dX11_showing_28 : decode cX11_showing 28 = .ok (.iload_n 2, 1) := by decide +kernel
theorem dX11_showing_29 : decode cX11_showing 29 = .ok (.iconst 0, 1) := by decide +kernel
theorem dX11_showing_30 : decode cX11_showing 30 = .ok (.sipush 200, 3) := by decide +kernel
theorem dX11_showing_33 : decode cX11_showing 33 = .ok (.invokestatic 119, 3) := by decide +kernel
theorem dX11_showing_36 : decode cX11_showing 36 = .ok (.ifCond .ne 7, 3) := by decide +kernel
theorem dX11_showing_39 : decode cX11_showing 39 = .ok (.iconst 1, 1) := by decide +kernel
theorem dX11_showing_40 : decode cX11_showing 40 = .ok (.goto 4, 3) := by decide +kernel
theorem dX11_showing_43 : decode cX11_showing 43 = .ok (.iconst 0, 1) := by decide +kernel
theorem dX11_showing_44 : decode cX11_showing 44 = .ok (.iconst 2, 1) := by decide +kernel
theorem dX11_showing_45 : decode cX11_showing 45 = .ok (.iconst 2, 1) := by decide +kernel
theorem dX11_showing_46 : decode cX11_showing 46 = .ok (.invokevirtual 158, 3) := by decide +kernel
theorem dX11_showing_49 : decode cX11_showing 49 = .ok (.ifCond .eq 5, 3) := by decide +kernel
theorem dX11_showing_52 : decode cX11_showing 52 = .ok (.iconst 0, 1) := by decide +kernel
theorem dX11_showing_53 : decode cX11_showing 53 = .ok (.ireturn, 1) := by decide +kernel
theorem dX11_showing_54 : decode cX11_showing 54 = .ok (.iconst 0, 1) := by decide +kernel
theorem dX11_showing_55 : decode cX11_showing 55 = .ok (.istore_n 3, 1) := by decide +kernel
theorem dX11_showing_56 : decode cX11_showing 56 = .ok (.iconst 0, 1) := by decide +kernel
theorem dX11_showing_57 : decode cX11_showing 57 = .ok (.istore 4, 2) := by decide +kernel
theorem dX11_showing_59 : decode cX11_showing 59 = .ok (.iload 4, 2) := by decide +kernel
theorem dX11_showing_61 : decode cX11_showing 61 = .ok (.bipush 16, 2) := by decide +kernel
theorem dX11_showing_63 : decode cX11_showing 63 = .ok (.if_icmp .ge 49, 3) := by decide +kernel
theorem dX11_showing_66 : decode cX11_showing 66 = .ok (.iload_n 3, 1) := by decide +kernel
theorem dX11_showing_67 : decode cX11_showing 67 = .ok (.aload_n 0, 1) := by decide +kernel
theorem dX11_showing_68 : decode cX11_showing 68 = .ok (.iload_n 1, 1) := by decide +kernel
theorem dX11_showing_69 : decode cX11_showing 69 = .ok (.iload 4, 2) := by decide +kernel
theorem dX11_showing_71 : decode cX11_showing 71 = .ok (.invokevirtual 248, 3) := by decide +kernel
theorem dX11_showing_74 : decode cX11_showing 74 = .ok (.ifCond .eq 29, 3) := by decide +kernel
theorem dX11_showing_77 : decode cX11_showing 77 = .ok (.aload_n 0, 1) := by decide +kernel
theorem dX11_showing_78 : decode cX11_showing 78 = .ok (.getfield 67, 3) := by decide +kernel
theorem dX11_showing_81 : decode cX11_showing 81 = .ok (.bipush 16, 2) := by decide +kernel
theorem dX11_showing_83 : decode cX11_showing 83 = .ok (.iload_n 1, 1) := by decide +kernel
theorem dX11_showing_84 : decode cX11_showing 84 = .ok (.imul, 1) := by decide +kernel
theorem dX11_showing_85 : decode cX11_showing 85 = .ok (.iload 4, 2) := by decide +kernel
theorem dX11_showing_87 : decode cX11_showing 87 = .ok (.iadd, 1) := by decide +kernel
theorem dX11_showing_88 : decode cX11_showing 88 = .ok (.iconst 0, 1) := by decide +kernel
theorem dX11_showing_89 : decode cX11_showing 89 = .ok (.invokestatic 244, 3) := by decide +kernel
theorem dX11_showing_92 : decode cX11_showing 92 = .ok (.iload_n 2, 1) := by decide +kernel
theorem dX11_showing_93 : decode cX11_showing 93 = .ok (.if_icmp .ne 10, 3) := by decide +kernel
theorem dX11_showing_96 : decode cX11_showing 96 = .ok (.iconst 1, 1) := by decide +kernel
theorem dX11_showing_97 : decode cX11_showing 97 = .ok (.iload 4, 2) := by decide +kernel
theorem dX11_showing_99 : decode cX11_showing 99 = .ok (.ishl, 1) := by decide +kernel
theorem dX11_showing_100 : decode cX11_showing 100 = .ok (.goto 4, 3) := by decide +kernel
theorem dX11_showing_103 : decode cX11_showing 103 = .ok (.iconst 0, 1) := by decide +kernel
theorem dX11_showing_104 : decode cX11_showing 104 = .ok (.ior, 1) := by decide +kernel
theorem dX11_showing_105 : decode cX11_showing 105 = .ok (.istore_n 3, 1) := by decide +kernel
theorem dX11_showing_106 : decode cX11_showing 106 = .ok (.iinc 4 1, 3) := by decide +kernel
theorem dX11_showing_109 : decode cX11_showing 109 = .ok (.goto (-50), 3) := by decide +kernel
theorem dX11_showing_112 : decode cX11_showing 112 = .ok (.iload_n 3, 1) := by decide +kernel
theorem dX11_showing_113 : decode cX11_showing 113 = .ok (.ireturn, 1) := by decide +kernel
theorem dX11_settles_0 : decode cX11_settles 0 = .ok (.aload_n 0, 1) := by decide +kernel
theorem dX11_settles_1 : decode cX11_settles 1 = .ok (.iconst 0, 1) := by decide +kernel
theorem dX11_settles_2 : decode cX11_settles 2 = .ok (.putfield 85, 3) := by decide +kernel
theorem dX11_settles_5 : decode cX11_settles 5 = .ok (.aload_n 0, 1) := by decide +kernel
theorem dX11_settles_6 : decode cX11_settles 6 = .ok (.iload_n 1, 1) := by decide +kernel
theorem dX11_settles_7 : decode cX11_settles 7 = .ok (.iload_n 2, 1) := by decide +kernel
theorem dX11_settles_8 : decode cX11_settles 8 = .ok (.iload_n 3, 1) := by decide +kernel
theorem dX11_settles_9 : decode cX11_settles 9 = .ok (.invokevirtual 318, 3) := by decide +kernel
theorem dX11_settles_12 : decode cX11_settles 12 = .ok (.ifCond .eq 5, 3) := by decide +kernel
theorem dX11_settles_15 : decode cX11_settles 15 = .ok (.iconst 0, 1) := by decide +kernel
theorem dX11_settles_16 : decode cX11_settles 16 = .ok (.ireturn, 1) := by decide +kernel
theorem dX11_settles_17 : decode cX11_settles 17 = .ok (.aload_n 0, 1) := by decide +kernel
theorem dX11_settles_18 : decode cX11_settles 18 = .ok (.getfield 67, 3) := by decide +kernel
theorem dX11_settles_21 : decode cX11_settles 21 = .ok (.sipush 2684, 3) := by decide +kernel
theorem dX11_settles_24 : decode cX11_settles 24 = .ok (.iaload, 1) := by decide +kernel
theorem dX11_settles_25 : decode cX11_settles 25 = .ok (.sipush 200, 3) := by decide +kernel
theorem dX11_settles_28 : decode cX11_settles 28 = .ok (.if_icmp .ge 35, 3) := by decide +kernel
theorem dX11_settles_31 : decode cX11_settles 31 = .ok (.aload_n 0, 1) := by decide +kernel
theorem dX11_settles_32 : decode cX11_settles 32 = .ok (.aload_n 0, 1) := by decide +kernel
theorem dX11_settles_33 : decode cX11_settles 33 = .ok (.getfield 67, 3) := by decide +kernel
theorem dX11_settles_36 : decode cX11_settles 36 = .ok (.iload_n 1, 1) := by decide +kernel
theorem dX11_settles_37 : decode cX11_settles 37 = .ok (.iconst 4, 1) := by decide +kernel
theorem dX11_settles_38 : decode cX11_settles 38 = .ok (.iload_n 3, 1) := by decide +kernel
theorem dX11_settles_39 : decode cX11_settles 39 = .ok (.imul, 1) := by decide +kernel
theorem dX11_settles_40 : decode cX11_settles 40 = .ok (.iload_n 2, 1) := by decide +kernel
theorem dX11_settles_41 : decode cX11_settles 41 = .ok (.iadd, 1) := by decide +kernel
theorem dX11_settles_42 : decode cX11_settles 42 = .ok (.aload_n 0, 1) := by decide +kernel
theorem dX11_settles_43 : decode cX11_settles 43 = .ok (.getfield 67, 3) := by decide +kernel
theorem dX11_settles_46 : decode cX11_settles 46 = .ok (.sipush 2684, 3) := by decide +kernel
theorem dX11_settles_49 : decode cX11_settles 49 = .ok (.iaload, 1) := by decide +kernel
theorem dX11_settles_50 : decode cX11_settles 50 = .ok (.iconst 1, 1) := by decide +kernel
theorem dX11_settles_51 : decode cX11_settles 51 = .ok (.iadd, 1) := by decide +kernel
theorem dX11_settles_52 : decode cX11_settles 52 = .ok (.iconst 0, 1) := by decide +kernel
theorem dX11_settles_53 : decode cX11_settles 53 = .ok (.invokevirtual 272, 3) := by decide +kernel
theorem dX11_settles_56 : decode cX11_settles 56 = .ok (.ifCond .eq 7, 3) := by decide +kernel
theorem dX11_settles_59 : decode cX11_settles 59 = .ok (.iconst 1, 1) := by decide +kernel
theorem dX11_settles_60 : decode cX11_settles 60 = .ok (.goto 4, 3) := by decide +kernel
theorem dX11_settles_63 : decode cX11_settles 63 = .ok (.iconst 0, 1) := by decide +kernel
theorem dX11_settles_64 : decode cX11_settles 64 = .ok (.ireturn, 1) := by decide +kernel
theorem dX11_cellOfOrder_0 : decode cX11_cellOfOrder 0 = .ok (.aload_n 0, 1) := by decide +kernel
theorem dX11_cellOfOrder_1 : decode cX11_cellOfOrder 1 = .ok (.iconst 0, 1) := by decide +kernel
theorem dX11_cellOfOrder_2 : decode cX11_cellOfOrder 2 = .ok (.iaload, 1) := by decide +kernel
theorem dX11_cellOfOrder_3 : decode cX11_cellOfOrder 3 = .ok (.aload_n 0, 1) := by decide +kernel
theorem dX11_cellOfOrder_4 : decode cX11_cellOfOrder 4 = .ok (.iconst 1, 1) := by decide +kernel
theorem dX11_cellOfOrder_5 : decode cX11_cellOfOrder 5 = .ok (.iaload, 1) := by decide +kernel
theorem dX11_cellOfOrder_6 : decode cX11_cellOfOrder 6 = .ok (.aload_n 0, 1) := by decide +kernel
theorem dX11_cellOfOrder_7 : decode cX11_cellOfOrder 7 = .ok (.iconst 2, 1) := by decide +kernel
theorem dX11_cellOfOrder_8 : decode cX11_cellOfOrder 8 = .ok (.iaload, 1) := by decide +kernel
theorem dX11_cellOfOrder_9 : decode cX11_cellOfOrder 9 = .ok (.invokestatic 321, 3) := by decide +kernel
theorem dX11_cellOfOrder_12 : decode cX11_cellOfOrder 12 = .ok (.ireturn, 1) := by decide +kernel
theorem dX11_isShown_0 : decode cX11_isShown 0 = .ok (.aload_n 1, 1) := by decide +kernel
theorem dX11_isShown_1 : decode cX11_isShown 1 = .ok (.aload_n 0, 1) := by decide +kernel
theorem dX11_isShown_2 : decode cX11_isShown 2 = .ok (.getfield 43, 3) := by decide +kernel
theorem dX11_isShown_5 : decode cX11_isShown 5 = .ok (.iload_n 2, 1) := by decide +kernel
theorem dX11_isShown_6 : decode cX11_isShown 6 = .ok (.aaload, 1) := by decide +kernel
theorem dX11_isShown_7 : decode cX11_isShown 7 = .ok (.invokestatic 327, 3) := by decide +kernel
theorem dX11_isShown_10 : decode cX11_isShown 10 = .ok (.iconst 0, 1) := by decide +kernel
theorem dX11_isShown_11 : decode cX11_isShown 11 = .ok (.invokestatic 244, 3) := by decide +kernel
theorem dX11_isShown_14 : decode cX11_isShown 14 = .ok (.aload_n 0, 1) := by decide +kernel
theorem dX11_isShown_15 : decode cX11_isShown 15 = .ok (.getfield 43, 3) := by decide +kernel
theorem dX11_isShown_18 : decode cX11_isShown 18 = .ok (.iload_n 2, 1) := by decide +kernel
theorem dX11_isShown_19 : decode cX11_isShown 19 = .ok (.aaload, 1) := by decide +kernel
theorem dX11_isShown_20 : decode cX11_isShown 20 = .ok (.iconst 3, 1) := by decide +kernel
theorem dX11_isShown_21 : decode cX11_isShown 21 = .ok (.iaload, 1) := by decide +kernel
theorem dX11_isShown_22 : decode cX11_isShown 22 = .ok (.if_icmp .ne 7, 3) := by decide +kernel
theorem dX11_isShown_25 : decode cX11_isShown 25 = .ok (.iconst 1, 1) := by decide +kernel
theorem dX11_isShown_26 : decode cX11_isShown 26 = .ok (.goto 4, 3) := by decide +kernel
theorem dX11_isShown_29 : decode cX11_isShown 29 = .ok (.iconst 0, 1) := by decide +kernel
theorem dX11_isShown_30 : decode cX11_isShown 30 = .ok (.ireturn, 1) := by decide +kernel
theorem dX11_stateOf_0 : decode cX11_stateOf 0 = .ok (.aload_n 0, 1) := by decide +kernel
theorem dX11_stateOf_1 : decode cX11_stateOf 1 = .ok (.getfield 67, 3) := by decide +kernel
theorem dX11_stateOf_4 : decode cX11_stateOf 4 = .ok (.sipush 2684, 3) := by decide +kernel
theorem dX11_stateOf_7 : decode cX11_stateOf 7 = .ok (.iaload, 1) := by decide +kernel
theorem dX11_stateOf_8 : decode cX11_stateOf 8 = .ok (.aload_n 0, 1) := by decide +kernel
theorem dX11_stateOf_9 : decode cX11_stateOf 9 = .ok (.getfield 43, 3) := by decide +kernel
theorem dX11_stateOf_12 : decode cX11_stateOf 12 = .ok (.iload_n 1, 1) := by decide +kernel
theorem dX11_stateOf_13 : decode cX11_stateOf 13 = .ok (.aaload, 1) := by decide +kernel
theorem dX11_stateOf_14 : decode cX11_stateOf 14 = .ok (.iconst 3, 1) := by decide +kernel
theorem dX11_stateOf_15 : decode cX11_stateOf 15 = .ok (.iaload, 1) := by decide +kernel
theorem dX11_stateOf_16 : decode cX11_stateOf 16 = .ok (.if_icmp .ge 5, 3) := by decide +kernel
theorem dX11_stateOf_19 : decode cX11_stateOf 19 = .ok (.iconst 0, 1) := by decide +kernel
theorem dX11_stateOf_20 : decode cX11_stateOf 20 = .ok (.ireturn, 1) := by decide +kernel
theorem dX11_stateOf_21 : decode cX11_stateOf 21 = .ok (.aload_n 0, 1) := by decide +kernel
theorem dX11_stateOf_22 : decode cX11_stateOf 22 = .ok (.getfield 67, 3) := by decide +kernel
theorem dX11_stateOf_25 : decode cX11_stateOf 25 = .ok (.sipush 2684, 3) := by decide +kernel
theorem dX11_stateOf_28 : decode cX11_stateOf 28 = .ok (.iaload, 1) := by decide +kernel
theorem dX11_stateOf_29 : decode cX11_stateOf 29 = .ok (.aload_n 0, 1) := by decide +kernel
theorem dX11_stateOf_30 : decode cX11_stateOf 30 = .ok (.getfield 43, 3) := by decide +kernel
theorem dX11_stateOf_33 : decode cX11_stateOf 33 = .ok (.iload_n 1, 1) := by decide +kernel
theorem dX11_stateOf_34 : decode cX11_stateOf 34 = .ok (.aaload, 1) := by decide +kernel
theorem dX11_stateOf_35 : decode cX11_stateOf 35 = .ok (.iconst 4, 1) := by decide +kernel
theorem dX11_stateOf_36 : decode cX11_stateOf 36 = .ok (.iaload, 1) := by decide +kernel
theorem dX11_stateOf_37 : decode cX11_stateOf 37 = .ok (.if_icmp .le 24, 3) := by decide +kernel
theorem dX11_stateOf_40 : decode cX11_stateOf 40 = .ok (.aload_n 0, 1) := by decide +kernel
theorem dX11_stateOf_41 : decode cX11_stateOf 41 = .ok (.getfield 67, 3) := by decide +kernel
theorem dX11_stateOf_44 : decode cX11_stateOf 44 = .ok (.sipush 2682, 3) := by decide +kernel
theorem dX11_stateOf_47 : decode cX11_stateOf 47 = .ok (.iaload, 1) := by decide +kernel
theorem dX11_stateOf_48 : decode cX11_stateOf 48 = .ok (.iload_n 1, 1) := by decide +kernel
theorem dX11_stateOf_49 : decode cX11_stateOf 49 = .ok (.invokestatic 259, 3) := by decide +kernel
theorem dX11_stateOf_52 : decode cX11_stateOf 52 = .ok (.ifCond .eq 7, 3) := by decide +kernel
theorem dX11_stateOf_55 : decode cX11_stateOf 55 = .ok (.iconst 1, 1) := by decide +kernel
theorem dX11_stateOf_56 : decode cX11_stateOf 56 = .ok (.goto 4, 3) := by decide +kernel
theorem dX11_stateOf_59 : decode cX11_stateOf 59 = .ok (.iconst 2, 1) := by decide +kernel
theorem dX11_stateOf_60 : decode cX11_stateOf 60 = .ok (.ireturn, 1) := by decide +kernel
theorem dX11_stateOf_61 : decode cX11_stateOf 61 = .ok (.aload_n 0, 1) := by decide +kernel
theorem dX11_stateOf_62 : decode cX11_stateOf 62 = .ok (.getfield 67, 3) := by decide +kernel
theorem dX11_stateOf_65 : decode cX11_stateOf 65 = .ok (.sipush 2684, 3) := by decide +kernel
theorem dX11_stateOf_68 : decode cX11_stateOf 68 = .ok (.iaload, 1) := by decide +kernel
theorem dX11_stateOf_69 : decode cX11_stateOf 69 = .ok (.aload_n 0, 1) := by decide +kernel
theorem dX11_stateOf_70 : decode cX11_stateOf 70 = .ok (.getfield 43, 3) := by decide +kernel
theorem dX11_stateOf_73 : decode cX11_stateOf 73 = .ok (.iload_n 1, 1) := by decide +kernel
theorem dX11_stateOf_74 : decode cX11_stateOf 74 = .ok (.aaload, 1) := by decide +kernel
theorem dX11_stateOf_75 : decode cX11_stateOf 75 = .ok (.iconst 4, 1) := by decide +kernel
theorem dX11_stateOf_76 : decode cX11_stateOf 76 = .ok (.iaload, 1) := by decide +kernel
theorem dX11_stateOf_77 : decode cX11_stateOf 77 = .ok (.if_icmp .ne 17, 3) := by decide +kernel
theorem dX11_stateOf_80 : decode cX11_stateOf 80 = .ok (.aload_n 0, 1) := by decide +kernel
theorem dX11_stateOf_81 : decode cX11_stateOf 81 = .ok (.aload_n 0, 1) := by decide +kernel
theorem dX11_stateOf_82 : decode cX11_stateOf 82 = .ok (.getfield 67, 3) := by decide +kernel
theorem dX11_stateOf_85 : decode cX11_stateOf 85 = .ok (.iload_n 1, 1) := by decide +kernel
theorem dX11_stateOf_86 : decode cX11_stateOf 86 = .ok (.invokevirtual 265, 3) := by decide +kernel
theorem dX11_stateOf_89 : decode cX11_stateOf 89 = .ok (.ifCond .eq 5, 3) := by decide +kernel
theorem dX11_stateOf_92 : decode cX11_stateOf 92 = .ok (.iconst 1, 1) := by decide +kernel
theorem dX11_stateOf_93 : decode cX11_stateOf 93 = .ok (.ireturn, 1) := by decide +kernel
theorem dX11_stateOf_94 : decode cX11_stateOf 94 = .ok (.aload_n 0, 1) := by decide +kernel
theorem dX11_stateOf_95 : decode cX11_stateOf 95 = .ok (.getfield 67, 3) := by decide +kernel
theorem dX11_stateOf_98 : decode cX11_stateOf 98 = .ok (.aload_n 0, 1) := by decide +kernel
theorem dX11_stateOf_99 : decode cX11_stateOf 99 = .ok (.getfield 43, 3) := by decide +kernel
theorem dX11_stateOf_102 : decode cX11_stateOf 102 = .ok (.iload_n 1, 1) := by decide +kernel
theorem dX11_stateOf_103 : decode cX11_stateOf 103 = .ok (.aaload, 1) := by decide +kernel
theorem dX11_stateOf_104 : decode cX11_stateOf 104 = .ok (.invokestatic 327, 3) := by decide +kernel
theorem dX11_stateOf_107 : decode cX11_stateOf 107 = .ok (.aload_n 0, 1) := by decide +kernel
theorem dX11_stateOf_108 : decode cX11_stateOf 108 = .ok (.getfield 43, 3) := by decide +kernel
theorem dX11_stateOf_111 : decode cX11_stateOf 111 = .ok (.iload_n 1, 1) := by decide +kernel
theorem dX11_stateOf_112 : decode cX11_stateOf 112 = .ok (.aaload, 1) := by decide +kernel
theorem dX11_stateOf_113 : decode cX11_stateOf 113 = .ok (.iconst 3, 1) := by decide +kernel
theorem dX11_stateOf_114 : decode cX11_stateOf 114 = .ok (.iaload, 1) := by decide +kernel
theorem dX11_stateOf_115 : decode cX11_stateOf 115 = .ok (.invokestatic 324, 3) := by decide +kernel
theorem dX11_stateOf_118 : decode cX11_stateOf 118 = .ok (.ifCond .ne 7, 3) := by decide +kernel
theorem dX11_stateOf_121 : decode cX11_stateOf 121 = .ok (.iconst 3, 1) := by decide +kernel
theorem dX11_stateOf_122 : decode cX11_stateOf 122 = .ok (.goto 4, 3) := by decide +kernel
theorem dX11_stateOf_125 : decode cX11_stateOf 125 = .ok (.iconst 0, 1) := by decide +kernel
theorem dX11_stateOf_126 : decode cX11_stateOf 126 = .ok (.ireturn, 1) := by decide +kernel
theorem dX11_order_0 : decode cX11_order 0 = .ok (.aload_n 0, 1) := by decide +kernel
theorem dX11_order_1 : decode cX11_order 1 = .ok (.iconst 0, 1) := by decide +kernel
theorem dX11_order_2 : decode cX11_order 2 = .ok (.putfield 85, 3) := by decide +kernel
theorem dX11_order_5 : decode cX11_order 5 = .ok (.aload_n 0, 1) := by decide +kernel
theorem dX11_order_6 : decode cX11_order 6 = .ok (.aload_n 0, 1) := by decide +kernel
theorem dX11_order_7 : decode cX11_order 7 = .ok (.iload_n 1, 1) := by decide +kernel
theorem dX11_order_8 : decode cX11_order 8 = .ok (.invokevirtual 330, 3) := by decide +kernel
theorem dX11_order_11 : decode cX11_order 11 = .ok (.ifCond .ne 7, 3) := by decide +kernel
theorem dX11_order_14 : decode cX11_order 14 = .ok (.iconst 1, 1) := by decide +kernel
theorem dX11_order_15 : decode cX11_order 15 = .ok (.goto 4, 3) := by decide +kernel
theorem dX11_order_18 : decode cX11_order 18 = .ok (.iconst 0, 1) := by decide +kernel
theorem dX11_order_19 : decode cX11_order 19 = .ok (.iconst 1, 1) := by decide +kernel
theorem dX11_order_20 : decode cX11_order 20 = .ok (.iconst 1, 1) := by decide +kernel
theorem dX11_order_21 : decode cX11_order 21 = .ok (.invokevirtual 158, 3) := by decide +kernel
theorem dX11_order_24 : decode cX11_order 24 = .ok (.ifCond .ne 26, 3) := by decide +kernel
theorem dX11_order_27 : decode cX11_order 27 = .ok (.aload_n 0, 1) := by decide +kernel
theorem dX11_order_28 : decode cX11_order 28 = .ok (.iload_n 2, 1) := by decide +kernel
theorem dX11_order_29 : decode cX11_order 29 = .ok (.iconst 0, 1) := by decide +kernel
theorem dX11_order_30 : decode cX11_order 30 = .ok (.iconst 5, 1) := by decide +kernel
theorem dX11_order_31 : decode cX11_order 31 = .ok (.invokestatic 119, 3) := by decide +kernel
theorem dX11_order_34 : decode cX11_order 34 = .ok (.ifCond .ne 7, 3) := by decide +kernel
theorem dX11_order_37 : decode cX11_order 37 = .ok (.iconst 1, 1) := by decide +kernel
theorem dX11_order_38 : decode cX11_order 38 = .ok (.goto 4, 3) := by decide +kernel
theorem dX11_order_41 : decode cX11_order 41 = .ok (.iconst 0, 1) := by decide +kernel
theorem dX11_order_42 : decode cX11_order 42 = .ok (.iconst 2, 1) := by decide +kernel
theorem dX11_order_43 : decode cX11_order 43 = .ok (.iconst 2, 1) := by decide +kernel
theorem dX11_order_44 : decode cX11_order 44 = .ok (.invokevirtual 158, 3) := by decide +kernel
theorem dX11_order_47 : decode cX11_order 47 = .ok (.ifCond .eq 5, 3) := by decide +kernel
theorem dX11_order_50 : decode cX11_order 50 = .ok (.iconst 0, 1) := by decide +kernel
theorem dX11_order_51 : decode cX11_order 51 = .ok (.ireturn, 1) := by decide +kernel
theorem dX11_order_52 : decode cX11_order 52 = .ok (.iload_n 2, 1) := by decide +kernel
theorem dX11_order_53 : decode cX11_order 53 = .ok (.iconst 5, 1) := by decide +kernel
theorem dX11_order_54 : decode cX11_order 54 = .ok (.if_icmp .ge 14, 3) := by decide +kernel
theorem dX11_order_57 : decode cX11_order 57 = .ok (.aload_n 0, 1) := by decide +kernel
theorem dX11_order_58 : decode cX11_order 58 = .ok (.getfield 43, 3) := by decide +kernel
theorem dX11_order_61 : decode cX11_order 61 = .ok (.iload_n 1, 1) := by decide +kernel
theorem dX11_order_62 : decode cX11_order 62 = .ok (.aaload, 1) := by decide +kernel
theorem dX11_order_63 : decode cX11_order 63 = .ok (.iload_n 2, 1) := by decide +kernel
theorem dX11_order_64 : decode cX11_order 64 = .ok (.iaload, 1) := by decide +kernel
theorem dX11_order_65 : decode cX11_order 65 = .ok (.goto 8, 3) := by decide +kernel
theorem dX11_order_68 : decode cX11_order 68 = .ok (.aload_n 0, 1) := by decide +kernel
theorem dX11_order_69 : decode cX11_order 69 = .ok (.iload_n 1, 1) := by decide +kernel
theorem dX11_order_70 : decode cX11_order 70 = .ok (.invokevirtual 333, 3) := by decide +kernel
theorem dX11_order_73 : decode cX11_order 73 = .ok (.ireturn, 1) := by decide +kernel
theorem dX11_outsideOf_0 : decode cX11_outsideOf 0 = .ok (.iconst 0, 1) := by decide +kernel
theorem dX11_outsideOf_1 : decode cX11_outsideOf 1 = .ok (.istore_n 3, 1) := by decide +kernel
theorem dX11_outsideOf_2 : decode cX11_outsideOf 2 = .ok (.iload_n 3, 1) := by decide +kernel
theorem dX11_outsideOf_3 : decode cX11_outsideOf 3 = .ok (.aload_n 0, 1) := by decide +kernel
theorem dX11_outsideOf_4 : decode cX11_outsideOf 4 = .ok (.sipush 2400, 3) := by decide +kernel
theorem dX11_outsideOf_7 : decode cX11_outsideOf 7 = .ok (.iload_n 1, 1) := by decide +kernel
theorem dX11_outsideOf_8 : decode cX11_outsideOf 8 = .ok (.iadd, 1) := by decide +kernel
theorem dX11_outsideOf_9 : decode cX11_outsideOf 9 = .ok (.iaload, 1) := by decide +kernel
theorem dX11_outsideOf_10 : decode cX11_outsideOf 10 = .ok (.if_icmp .ge 21, 3) := by decide +kernel
theorem dX11_outsideOf_13 : decode cX11_outsideOf 13 = .ok (.aload_n 0, 1) := by decide +kernel
theorem dX11_outsideOf_14 : decode cX11_outsideOf 14 = .ok (.iload_n 1, 1) := by decide +kernel
theorem dX11_outsideOf_15 : decode cX11_outsideOf 15 = .ok (.iload_n 3, 1) := by decide +kernel
theorem dX11_outsideOf_16 : decode cX11_outsideOf 16 = .ok (.invokestatic 244, 3) := by decide +kernel
theorem dX11_outsideOf_19 : decode cX11_outsideOf 19 = .ok (.iload_n 2, 1) := by decide +kernel
theorem dX11_outsideOf_20 : decode cX11_outsideOf 20 = .ok (.if_icmp .ne 5, 3) := by decide +kernel
theorem dX11_outsideOf_23 : decode cX11_outsideOf 23 = .ok (.iload_n 3, 1) := by decide +kernel
theorem dX11_outsideOf_24 : decode cX11_outsideOf 24 = .ok (.ireturn, 1) := by decide +kernel
theorem dX11_outsideOf_25 : decode cX11_outsideOf 25 = .ok (.iinc 3 1, 3) := by decide +kernel
theorem dX11_outsideOf_28 : decode cX11_outsideOf 28 = .ok (.goto (-26), 3) := by decide +kernel
theorem dX11_outsideOf_31 : decode cX11_outsideOf 31 = .ok (.iconst (-1), 1) := by decide +kernel
theorem dX11_outsideOf_32 : decode cX11_outsideOf 32 = .ok (.ireturn, 1) := by decide +kernel
theorem dX11_needs_0 : decode cX11_needs 0 = .ok (.aload_n 0, 1) := by decide +kernel
theorem dX11_needs_1 : decode cX11_needs 1 = .ok (.iconst 0, 1) := by decide +kernel
theorem dX11_needs_2 : decode cX11_needs 2 = .ok (.putfield 85, 3) := by decide +kernel
theorem dX11_needs_5 : decode cX11_needs 5 = .ok (.aload_n 0, 1) := by decide +kernel
theorem dX11_needs_6 : decode cX11_needs 6 = .ok (.aload_n 0, 1) := by decide +kernel
theorem dX11_needs_7 : decode cX11_needs 7 = .ok (.iload_n 1, 1) := by decide +kernel
theorem dX11_needs_8 : decode cX11_needs 8 = .ok (.invokevirtual 330, 3) := by decide +kernel
theorem dX11_needs_11 : decode cX11_needs 11 = .ok (.ifCond .ne 7, 3) := by decide +kernel
theorem dX11_needs_14 : decode cX11_needs 14 = .ok (.iconst 1, 1) := by decide +kernel
theorem dX11_needs_15 : decode cX11_needs 15 = .ok (.goto 4, 3) := by decide +kernel
theorem dX11_needs_18 : decode cX11_needs 18 = .ok (.iconst 0, 1) := by decide +kernel
theorem dX11_needs_19 : decode cX11_needs 19 = .ok (.iconst 1, 1) := by decide +kernel
theorem dX11_needs_20 : decode cX11_needs 20 = .ok (.iconst 1, 1) := by decide +kernel
theorem dX11_needs_21 : decode cX11_needs 21 = .ok (.invokevirtual 158, 3) := by decide +kernel
theorem dX11_needs_24 : decode cX11_needs 24 = .ok (.ifCond .eq 5, 3) := by decide +kernel
theorem dX11_needs_27 : decode cX11_needs 27 = .ok (.iconst 0, 1) := by decide +kernel
theorem dX11_needs_28 : decode cX11_needs 28 = .ok (.ireturn, 1) := by decide +kernel
theorem dX11_needs_29 : decode cX11_needs 29 = .ok (.aload_n 0, 1) := by decide +kernel
theorem dX11_needs_30 : decode cX11_needs 30 = .ok (.getfield 67, 3) := by decide +kernel
theorem dX11_needs_33 : decode cX11_needs 33 = .ok (.aload_n 0, 1) := by decide +kernel
theorem dX11_needs_34 : decode cX11_needs 34 = .ok (.getfield 43, 3) := by decide +kernel
theorem dX11_needs_37 : decode cX11_needs 37 = .ok (.iload_n 1, 1) := by decide +kernel
theorem dX11_needs_38 : decode cX11_needs 38 = .ok (.aaload, 1) := by decide +kernel
theorem dX11_needs_39 : decode cX11_needs 39 = .ok (.invokestatic 327, 3) := by decide +kernel
theorem dX11_needs_42 : decode cX11_needs 42 = .ok (.aload_n 0, 1) := by decide +kernel
theorem dX11_needs_43 : decode cX11_needs 43 = .ok (.getfield 43, 3) := by decide +kernel
theorem dX11_needs_46 : decode cX11_needs 46 = .ok (.iload_n 1, 1) := by decide +kernel
theorem dX11_needs_47 : decode cX11_needs 47 = .ok (.aaload, 1) := by decide +kernel
theorem dX11_needs_48 : decode cX11_needs 48 = .ok (.iconst 3, 1) := by decide +kernel
theorem dX11_needs_49 : decode cX11_needs 49 = .ok (.iaload, 1) := by decide +kernel
theorem dX11_needs_50 : decode cX11_needs 50 = .ok (.invokestatic 336, 3) := by decide +kernel
theorem dX11_needs_53 : decode cX11_needs 53 = .ok (.ireturn, 1) := by decide +kernel
theorem dX11_lost_0 : decode cX11_lost 0 = .ok (.aload_n 0, 1) := by decide +kernel
theorem dX11_lost_1 : decode cX11_lost 1 = .ok (.iconst 0, 1) := by decide +kernel
theorem dX11_lost_2 : decode cX11_lost 2 = .ok (.putfield 85, 3) := by decide +kernel
theorem dX11_lost_5 : decode cX11_lost 5 = .ok (.iconst 0, 1) := by decide +kernel
theorem dX11_lost_6 : decode cX11_lost 6 = .ok (.istore_n 1, 1) := by decide +kernel
theorem dX11_lost_7 : decode cX11_lost 7 = .ok (.iload_n 1, 1) := by decide +kernel
theorem dX11_lost_8 : decode cX11_lost 8 = .ok (.aload_n 0, 1) := by decide +kernel
theorem dX11_lost_9 : decode cX11_lost 9 = .ok (.getfield 23, 3) := by decide +kernel
theorem dX11_lost_12 : decode cX11_lost 12 = .ok (.iconst 1, 1) := by decide +kernel
theorem dX11_lost_13 : decode cX11_lost 13 = .ok (.iaload, 1) := by decide +kernel
theorem dX11_lost_14 : decode cX11_lost 14 = .ok (.if_icmp .ge 20, 3) := by decide +kernel
theorem dX11_lost_17 : decode cX11_lost 17 = .ok (.aload_n 0, 1) := by decide +kernel
theorem dX11_lost_18 : decode cX11_lost 18 = .ok (.iload_n 1, 1) := by decide +kernel
theorem dX11_lost_19 : decode cX11_lost 19 = .ok (.invokevirtual 333, 3) := by decide +kernel
theorem dX11_lost_22 : decode cX11_lost 22 = .ok (.iconst 1, 1) := by decide +kernel
theorem dX11_lost_23 : decode cX11_lost 23 = .ok (.if_icmp .le 5, 3) := by decide +kernel
theorem dX11_lost_26 : decode cX11_lost 26 = .ok (.iload_n 1, 1) := by decide +kernel
theorem dX11_lost_27 : decode cX11_lost 27 = .ok (.ireturn, 1) := by decide +kernel
theorem dX11_lost_28 : decode cX11_lost 28 = .ok (.iinc 1 1, 3) := by decide +kernel
theorem dX11_lost_31 : decode cX11_lost 31 = .ok (.goto (-24), 3) := by decide +kernel
theorem dX11_lost_34 : decode cX11_lost 34 = .ok (.iconst (-1), 1) := by decide +kernel
theorem dX11_lost_35 : decode cX11_lost 35 = .ok (.ireturn, 1) := by decide +kernel
theorem dX11_cellsOf_0 : decode cX11_cellsOf 0 = .ok (.iconst 0, 1) := by decide +kernel
theorem dX11_cellsOf_1 : decode cX11_cellsOf 1 = .ok (.istore_n 2, 1) := by decide +kernel
theorem dX11_cellsOf_2 : decode cX11_cellsOf 2 = .ok (.iconst 0, 1) := by decide +kernel
theorem dX11_cellsOf_3 : decode cX11_cellsOf 3 = .ok (.istore_n 3, 1) := by decide +kernel
theorem dX11_cellsOf_4 : decode cX11_cellsOf 4 = .ok (.iload_n 3, 1) := by decide +kernel
theorem dX11_cellsOf_5 : decode cX11_cellsOf 5 = .ok (.bipush 16, 2) := by decide +kernel
theorem dX11_cellsOf_7 : decode cX11_cellsOf 7 = .ok (.if_icmp .ge 28, 3) := by decide +kernel
theorem dX11_cellsOf_10 : decode cX11_cellsOf 10 = .ok (.iload_n 2, 1) := by decide +kernel
theorem dX11_cellsOf_11 : decode cX11_cellsOf 11 = .ok (.aload_n 0, 1) := by decide +kernel
theorem dX11_cellsOf_12 : decode cX11_cellsOf 12 = .ok (.iload_n 1, 1) := by decide +kernel
theorem dX11_cellsOf_13 : decode cX11_cellsOf 13 = .ok (.iload_n 3, 1) := by decide +kernel
theorem dX11_cellsOf_14 : decode cX11_cellsOf 14 = .ok (.invokevirtual 248, 3) := by decide +kernel
theorem dX11_cellsOf_17 : decode cX11_cellsOf 17 = .ok (.ifCond .eq 9, 3) := by decide +kernel
theorem dX11_cellsOf_20 : decode cX11_cellsOf 20 = .ok (.iconst 1, 1) := by decide +kernel
theorem dX11_cellsOf_21 : decode cX11_cellsOf 21 = .ok (.iload_n 3, 1) := by decide +kernel
theorem dX11_cellsOf_22 : decode cX11_cellsOf 22 = .ok (.ishl, 1) := by decide +kernel
theorem dX11_cellsOf_23 : decode cX11_cellsOf 23 = .ok (.goto 4, 3) := by decide +kernel
theorem dX11_cellsOf_26 : decode cX11_cellsOf 26 = .ok (.iconst 0, 1) := by decide +kernel
theorem dX11_cellsOf_27 : decode cX11_cellsOf 27 = .ok (.ior, 1) := by decide +kernel
theorem dX11_cellsOf_28 : decode cX11_cellsOf 28 = .ok (.istore_n 2, 1) := by decide +kernel
theorem dX11_cellsOf_29 : decode cX11_cellsOf 29 = .ok (.iinc 3 1, 3) := by decide +kernel
theorem dX11_cellsOf_32 : decode cX11_cellsOf 32 = .ok (.goto (-28), 3) := by decide +kernel
theorem dX11_cellsOf_35 : decode cX11_cellsOf 35 = .ok (.iload_n 2, 1) := by decide +kernel
theorem dX11_cellsOf_36 : decode cX11_cellsOf 36 = .ok (.ireturn, 1) := by decide +kernel
theorem dX11_areCells_0 : decode cX11_areCells 0 = .ok (.iload_n 2, 1) := by decide +kernel
theorem dX11_areCells_1 : decode cX11_areCells 1 = .ok (.ifCond .lt 19, 3) := by decide +kernel
theorem dX11_areCells_4 : decode cX11_areCells 4 = .ok (.iload_n 2, 1) := by decide +kernel
theorem dX11_areCells_5 : decode cX11_areCells 5 = .ok (.aload_n 0, 1) := by decide +kernel
theorem dX11_areCells_6 : decode cX11_areCells 6 = .ok (.iload_n 1, 1) := by decide +kernel
theorem dX11_areCells_7 : decode cX11_areCells 7 = .ok (.invokevirtual 339, 3) := by decide +kernel
theorem dX11_areCells_10 : decode cX11_areCells 10 = .ok (.iconst (-1), 1) := by decide +kernel
theorem dX11_areCells_11 : decode cX11_areCells 11 = .ok (.ixor, 1) := by decide +kernel
theorem dX11_areCells_12 : decode cX11_areCells 12 = .ok (.iand, 1) := by decide +kernel
theorem dX11_areCells_13 : decode cX11_areCells 13 = .ok (.ifCond .ne 7, 3) := by decide +kernel
theorem dX11_areCells_16 : decode cX11_areCells 16 = .ok (.iconst 1, 1) := by decide +kernel
theorem dX11_areCells_17 : decode cX11_areCells 17 = .ok (.goto 4, 3) := by decide +kernel
theorem dX11_areCells_20 : decode cX11_areCells 20 = .ok (.iconst 0, 1) := by decide +kernel
theorem dX11_areCells_21 : decode cX11_areCells 21 = .ok (.ireturn, 1) := by decide +kernel
theorem dX11_costOf_0 : decode cX11_costOf 0 = .ok (.iconst 0, 1) := by decide +kernel
theorem dX11_costOf_1 : decode cX11_costOf 1 = .ok (.istore 4, 2) := by decide +kernel
theorem dX11_costOf_3 : decode cX11_costOf 3 = .ok (.iconst 0, 1) := by decide +kernel
theorem dX11_costOf_4 : decode cX11_costOf 4 = .ok (.istore 5, 2) := by decide +kernel
theorem dX11_costOf_6 : decode cX11_costOf 6 = .ok (.iload 5, 2) := by decide +kernel
theorem dX11_costOf_8 : decode cX11_costOf 8 = .ok (.bipush 16, 2) := by decide +kernel
theorem dX11_costOf_10 : decode cX11_costOf 10 = .ok (.if_icmp .ge 53, 3) := by decide +kernel
theorem dX11_costOf_13 : decode cX11_costOf 13 = .ok (.iload_n 2, 1) := by decide +kernel
theorem dX11_costOf_14 : decode cX11_costOf 14 = .ok (.iload 5, 2) := by decide +kernel
theorem dX11_costOf_16 : decode cX11_costOf 16 = .ok (.invokestatic 259, 3) := by decide +kernel
theorem dX11_costOf_19 : decode cX11_costOf 19 = .ok (.ifCond .ne 6, 3) := by decide +kernel
theorem dX11_costOf_22 : decode cX11_costOf 22 = .ok (.goto 35, 3) := by decide +kernel
theorem dX11_costOf_25 : decode cX11_costOf 25 = .ok (.aload_n 0, 1) := by decide +kernel
theorem dX11_costOf_26 : decode cX11_costOf 26 = .ok (.getfield 67, 3) := by decide +kernel
theorem dX11_costOf_29 : decode cX11_costOf 29 = .ok (.bipush 16, 2) := by decide +kernel
theorem dX11_costOf_31 : decode cX11_costOf 31 = .ok (.iload_n 1, 1) := by decide +kernel
theorem dX11_costOf_32 : decode cX11_costOf 32 = .ok (.imul, 1) := by decide +kernel
theorem dX11_costOf_33 : decode cX11_costOf 33 = .ok (.iload 5, 2) := by decide +kernel
theorem dX11_costOf_35 : decode cX11_costOf 35 = .ok (.iadd, 1) := by decide +kernel
theorem dX11_costOf_36 : decode cX11_costOf 36 = .ok (.iload_n 3, 1) := by decide +kernel
theorem dX11_costOf_37 : decode cX11_costOf 37 = .ok (.invokestatic 336, 3) := by decide +kernel
theorem dX11_costOf_40 : decode cX11_costOf 40 = .ok (.istore 6, 2) := by decide +kernel
theorem dX11_costOf_42 : decode cX11_costOf 42 = .ok (.iload 6, 2) := by decide +kernel
theorem dX11_costOf_44 : decode cX11_costOf 44 = .ok (.iconst (-1), 1) := by decide +kernel
theorem dX11_costOf_45 : decode cX11_costOf 45 = .ok (.if_icmp .ne 5, 3) := by decide +kernel
theorem dX11_costOf_48 : decode cX11_costOf 48 = .ok (.iconst (-1), 1) := by decide +kernel
theorem dX11_costOf_49 : decode cX11_costOf 49 = .ok (.ireturn, 1) := by decide +kernel
theorem dX11_costOf_50 : decode cX11_costOf 50 = .ok (.iload 4, 2) := by decide +kernel
theorem dX11_costOf_52 : decode cX11_costOf 52 = .ok (.iload 6, 2) := by decide +kernel
theorem dX11_costOf_54 : decode cX11_costOf 54 = .ok (.iadd, 1) := by decide +kernel
theorem dX11_costOf_55 : decode cX11_costOf 55 = .ok (.istore 4, 2) := by decide +kernel
theorem dX11_costOf_57 : decode cX11_costOf 57 = .ok (.iinc 5 1, 3) := by decide +kernel
theorem dX11_costOf_60 : decode cX11_costOf 60 = .ok (.goto (-54), 3) := by decide +kernel
theorem dX11_costOf_63 : decode cX11_costOf 63 = .ok (.iload_n 2, 1) := by decide +kernel
theorem dX11_costOf_64 : decode cX11_costOf 64 = .ok (.ifCond .ne 7, 3) := by decide +kernel
theorem dX11_costOf_67 : decode cX11_costOf 67 = .ok (.iconst (-1), 1) := by decide +kernel
theorem dX11_costOf_68 : decode cX11_costOf 68 = .ok (.goto 5, 3) := by decide +kernel
theorem dX11_costOf_71 : decode cX11_costOf 71 = .ok (.iload 4, 2) := by decide +kernel
theorem dX11_costOf_73 : decode cX11_costOf 73 = .ok (.ireturn, 1) := by decide +kernel
theorem dX11_cost_0 : decode cX11_cost 0 = .ok (.aload_n 0, 1) := by decide +kernel
theorem dX11_cost_1 : decode cX11_cost 1 = .ok (.iconst 0, 1) := by decide +kernel
theorem dX11_cost_2 : decode cX11_cost 2 = .ok (.putfield 85, 3) := by decide +kernel
theorem dX11_cost_5 : decode cX11_cost 5 = .ok (.aload_n 0, 1) := by decide +kernel
theorem dX11_cost_6 : decode cX11_cost 6 = .ok (.aload_n 0, 1) := by decide +kernel
theorem dX11_cost_7 : decode cX11_cost 7 = .ok (.iload_n 1, 1) := by decide +kernel
theorem dX11_cost_8 : decode cX11_cost 8 = .ok (.invokevirtual 315, 3) := by decide +kernel
theorem dX11_cost_11 : decode cX11_cost 11 = .ok (.ifCond .ne 7, 3) := by decide +kernel
theorem dX11_cost_14 : decode cX11_cost 14 = .ok (.iconst 1, 1) := by decide +kernel
theorem dX11_cost_15 : decode cX11_cost 15 = .ok (.goto 4, 3) := by decide +kernel
theorem dX11_cost_18 : decode cX11_cost 18 = .ok (.iconst 0, 1) := by decide +kernel
theorem dX11_cost_19 : decode cX11_cost 19 = .ok (.iconst 1, 1) := by decide +kernel
theorem dX11_cost_20 : decode cX11_cost 20 = .ok (.iconst 1, 1) := by decide +kernel
theorem dX11_cost_21 : decode cX11_cost 21 = .ok (.invokevirtual 158, 3) := by decide +kernel
theorem dX11_cost_24 : decode cX11_cost 24 = .ok (.ifCond .ne 37, 3) := by decide +kernel
theorem dX11_cost_27 : decode cX11_cost 27 = .ok (.aload_n 0, 1) := by decide +kernel
theorem dX11_cost_28 : decode cX11_cost 28 = .ok (.aload_n 0, 1) := by decide +kernel
theorem dX11_cost_29 : decode cX11_cost 29 = .ok (.iload_n 1, 1) := by decide +kernel
theorem dX11_cost_30 : decode cX11_cost 30 = .ok (.iload_n 2, 1) := by decide +kernel
theorem dX11_cost_31 : decode cX11_cost 31 = .ok (.invokevirtual 342, 3) := by decide +kernel
theorem dX11_cost_34 : decode cX11_cost 34 = .ok (.ifCond .eq 14, 3) := by decide +kernel
theorem dX11_cost_37 : decode cX11_cost 37 = .ok (.iload_n 3, 1) := by decide +kernel
theorem dX11_cost_38 : decode cX11_cost 38 = .ok (.iconst 1, 1) := by decide +kernel
theorem dX11_cost_39 : decode cX11_cost 39 = .ok (.sipush 200, 3) := by decide +kernel
theorem dX11_cost_42 : decode cX11_cost 42 = .ok (.invokestatic 119, 3) := by decide +kernel
theorem dX11_cost_45 : decode cX11_cost 45 = .ok (.ifCond .ne 7, 3) := by decide +kernel
theorem dX11_cost_48 : decode cX11_cost 48 = .ok (.iconst 1, 1) := by decide +kernel
theorem dX11_cost_49 : decode cX11_cost 49 = .ok (.goto 4, 3) := by decide +kernel
theorem dX11_cost_52 : decode cX11_cost 52 = .ok (.iconst 0, 1) := by decide +kernel
theorem dX11_cost_53 : decode cX11_cost 53 = .ok (.iconst 2, 1) := by decide +kernel
theorem dX11_cost_54 : decode cX11_cost 54 = .ok (.iconst 2, 1) := by decide +kernel
theorem dX11_cost_55 : decode cX11_cost 55 = .ok (.invokevirtual 158, 3) := by decide +kernel
theorem dX11_cost_58 : decode cX11_cost 58 = .ok (.ifCond .eq 5, 3) := by decide +kernel
theorem dX11_cost_61 : decode cX11_cost 61 = .ok (.iconst 0, 1) := by decide +kernel
theorem dX11_cost_62 : decode cX11_cost 62 = .ok (.ireturn, 1) := by decide +kernel
theorem dX11_cost_63 : decode cX11_cost 63 = .ok (.aload_n 0, 1) := by decide +kernel
theorem dX11_cost_64 : decode cX11_cost 64 = .ok (.iload_n 1, 1) := by decide +kernel
theorem dX11_cost_65 : decode cX11_cost 65 = .ok (.iload_n 2, 1) := by decide +kernel
theorem dX11_cost_66 : decode cX11_cost 66 = .ok (.iload_n 3, 1) := by decide +kernel
theorem dX11_cost_67 : decode cX11_cost 67 = .ok (.invokevirtual 345, 3) := by decide +kernel
theorem dX11_cost_70 : decode cX11_cost 70 = .ok (.ireturn, 1) := by decide +kernel
theorem dX11_view_0 : decode cX11_view 0 = .ok (.aload_n 0, 1) := by decide +kernel
theorem dX11_view_1 : decode cX11_view 1 = .ok (.iconst 0, 1) := by decide +kernel
theorem dX11_view_2 : decode cX11_view 2 = .ok (.putfield 85, 3) := by decide +kernel
theorem dX11_view_5 : decode cX11_view 5 = .ok (.aload_n 0, 1) := by decide +kernel
theorem dX11_view_6 : decode cX11_view 6 = .ok (.aload_n 0, 1) := by decide +kernel
theorem dX11_view_7 : decode cX11_view 7 = .ok (.iload_n 1, 1) := by decide +kernel
theorem dX11_view_8 : decode cX11_view 8 = .ok (.invokevirtual 315, 3) := by decide +kernel
theorem dX11_view_11 : decode cX11_view 11 = .ok (.ifCond .ne 7, 3) := by decide +kernel
theorem dX11_view_14 : decode cX11_view 14 = .ok (.iconst 1, 1) := by decide +kernel
theorem dX11_view_15 : decode cX11_view 15 = .ok (.goto 4, 3) := by decide +kernel
theorem dX11_view_18 : decode cX11_view 18 = .ok (.iconst 0, 1) := by decide +kernel
theorem dX11_view_19 : decode cX11_view 19 = .ok (.iconst 1, 1) := by decide +kernel
theorem dX11_view_20 : decode cX11_view 20 = .ok (.iconst 1, 1) := by decide +kernel
theorem dX11_view_21 : decode cX11_view 21 = .ok (.invokevirtual 158, 3) := by decide +kernel
theorem dX11_view_24 : decode cX11_view 24 = .ok (.ifCond .ne 35, 3) := by decide +kernel
theorem dX11_view_27 : decode cX11_view 27 = .ok (.aload_n 0, 1) := by decide +kernel
theorem dX11_view_28 : decode cX11_view 28 = .ok (.aload_n 0, 1) := by decide +kernel
theorem dX11_view_29 : decode cX11_view 29 = .ok (.iload_n 1, 1) := by decide +kernel
theorem dX11_view_30 : decode cX11_view 30 = .ok (.iload_n 2, 1) := by decide +kernel
theorem dX11_view_31 : decode cX11_view 31 = .ok (.invokevirtual 342, 3) := by decide +kernel
theorem dX11_view_34 : decode cX11_view 34 = .ok (.ifCond .eq 12, 3) := by decide +kernel
theorem dX11_view_37 : decode cX11_view 37 = .ok (.iload_n 3, 1) := by decide +kernel
theorem dX11_view_38 : decode cX11_view 38 = .ok (.iconst 0, 1) := by decide +kernel
theorem dX11_view_39 : decode cX11_view 39 = .ok (.iconst 1, 1) := by decide +kernel
theorem dX11_view_40 : decode cX11_view 40 = .ok (.invokestatic 119, 3) := by decide +kernel
theorem dX11_view_43 : decode cX11_view 43 = .ok (.ifCond .ne 7, 3) := by decide +kernel
theorem dX11_view_46 : decode cX11_view 46 = .ok (.iconst 1, 1) := by decide +kernel
theorem dX11_view_47 : decode cX11_view 47 = .ok (.goto 4, 3) := by decide +kernel
theorem dX11_view_50 : decode cX11_view 50 = .ok (.iconst 0, 1) := by decide +kernel
theorem dX11_view_51 : decode cX11_view 51 = .ok (.iconst 2, 1) := by decide +kernel
theorem dX11_view_52 : decode cX11_view 52 = .ok (.iconst 2, 1) := by decide +kernel
theorem dX11_view_53 : decode cX11_view 53 = .ok (.invokevirtual 158, 3) := by decide +kernel
theorem dX11_view_56 : decode cX11_view 56 = .ok (.ifCond .eq 5, 3) := by decide +kernel
theorem dX11_view_59 : decode cX11_view 59 = .ok (.iconst 0, 1) := by decide +kernel
theorem dX11_view_60 : decode cX11_view 60 = .ok (.ireturn, 1) := by decide +kernel
theorem dX11_view_61 : decode cX11_view 61 = .ok (.iconst (-1), 1) := by decide +kernel
theorem dX11_view_62 : decode cX11_view 62 = .ok (.istore 4, 2) := by decide +kernel
theorem dX11_view_64 : decode cX11_view 64 = .ok (.iconst (-1), 1) := by decide +kernel
theorem dX11_view_65 : decode cX11_view 65 = .ok (.istore 5, 2) := by decide +kernel
theorem dX11_view_67 : decode cX11_view 67 = .ok (.sipush 200, 3) := by decide +kernel
theorem dX11_view_70 : decode cX11_view 70 = .ok (.istore 6, 2) := by decide +kernel
theorem dX11_view_72 : decode cX11_view 72 = .ok (.iload 6, 2) := by decide +kernel
theorem dX11_view_74 : decode cX11_view 74 = .ok (.ifCond .le 49, 3) := by decide +kernel
theorem dX11_view_77 : decode cX11_view 77 = .ok (.aload_n 0, 1) := by decide +kernel
theorem dX11_view_78 : decode cX11_view 78 = .ok (.iload_n 1, 1) := by decide +kernel
theorem dX11_view_79 : decode cX11_view 79 = .ok (.iload_n 2, 1) := by decide +kernel
theorem dX11_view_80 : decode cX11_view 80 = .ok (.iload 6, 2) := by decide +kernel
theorem dX11_view_82 : decode cX11_view 82 = .ok (.invokevirtual 345, 3) := by decide +kernel
theorem dX11_view_85 : decode cX11_view 85 = .ok (.istore 7, 2) := by decide +kernel
theorem dX11_view_87 : decode cX11_view 87 = .ok (.iload 7, 2) := by decide +kernel
theorem dX11_view_89 : decode cX11_view 89 = .ok (.iconst (-1), 1) := by decide +kernel
theorem dX11_view_90 : decode cX11_view 90 = .ok (.if_icmp .eq 27, 3) := by decide +kernel
theorem dX11_view_93 : decode cX11_view 93 = .ok (.iload 4, 2) := by decide +kernel
theorem dX11_view_95 : decode cX11_view 95 = .ok (.iconst (-1), 1) := by decide +kernel
theorem dX11_view_96 : decode cX11_view 96 = .ok (.if_icmp .eq 13, 3) := by decide +kernel
theorem dX11_view_99 : decode cX11_view 99 = .ok (.iload 7, 2) := by decide +kernel
theorem dX11_view_101 : decode cX11_view 101 = .ok (.iload 5, 2) := by decide +kernel
theorem dX11_view_103 : decode cX11_view 103 = .ok (.if_icmp .lt 6, 3) := by decide +kernel
theorem dX11_view_106 : decode cX11_view 106 = .ok (.goto 11, 3) := by decide +kernel
theorem dX11_view_109 : decode cX11_view 109 = .ok (.iload 6, 2) := by decide +kernel
theorem dX11_view_111 : decode cX11_view 111 = .ok (.istore 4, 2) := by decide +kernel
theorem dX11_view_113 : decode cX11_view 113 = .ok (.iload 7, 2) := by decide +kernel
theorem dX11_view_115 : decode cX11_view 115 = .ok (.istore 5, 2) := by decide +kernel
theorem dX11_view_117 : decode cX11_view 117 = .ok (.iinc 6 (-1), 3) := by decide +kernel
theorem dX11_view_120 : decode cX11_view 120 = .ok (.goto (-48), 3) := by decide +kernel
theorem dX11_view_123 : decode cX11_view 123 = .ok (.iload_n 3, 1) := by decide +kernel
theorem dX11_view_124 : decode cX11_view 124 = .ok (.ifCond .ne 8, 3) := by decide +kernel
theorem dX11_view_127 : decode cX11_view 127 = .ok (.iload 4, 2) := by decide +kernel
theorem dX11_view_129 : decode cX11_view 129 = .ok (.goto 5, 3) := by decide +kernel
theorem dX11_view_132 : decode cX11_view 132 = .ok (.iload 5, 2) := by decide +kernel
theorem dX11_view_134 : decode cX11_view 134 = .ok (.ireturn, 1) := by decide +kernel
theorem dX11_seamsOf_0 : decode cX11_seamsOf 0 = .ok (.iconst 0, 1) := by decide +kernel
theorem dX11_seamsOf_1 : decode cX11_seamsOf 1 = .ok (.istore_n 3, 1) := by decide +kernel
theorem dX11_seamsOf_2 : decode cX11_seamsOf 2 = .ok (.iconst 0, 1) := by decide +kernel
theorem dX11_seamsOf_3 : decode cX11_seamsOf 3 = .ok (.istore 4, 2) := by decide +kernel
theorem dX11_seamsOf_5 : decode cX11_seamsOf 5 = .ok (.iload 4, 2) := by decide +kernel
theorem dX11_seamsOf_7 : decode cX11_seamsOf 7 = .ok (.bipush 16, 2) := by decide +kernel
theorem dX11_seamsOf_9 : decode cX11_seamsOf 9 = .ok (.if_icmp .ge 126, 3) := by decide +kernel
theorem dX11_seamsOf_12 : decode cX11_seamsOf 12 = .ok (.aload_n 1, 1) := by decide +kernel
theorem dX11_seamsOf_13 : decode cX11_seamsOf 13 = .ok (.bipush 16, 2) := by decide +kernel
theorem dX11_seamsOf_15 : decode cX11_seamsOf 15 = .ok (.iload_n 2, 1) := by decide +kernel
theorem dX11_seamsOf_16 : decode cX11_seamsOf 16 = .ok (.imul, 1) := by decide +kernel
theorem dX11_seamsOf_17 : decode cX11_seamsOf 17 = .ok (.iload 4, 2) := by decide +kernel
theorem dX11_seamsOf_19 : decode cX11_seamsOf 19 = .ok (.iadd, 1) := by decide +kernel
theorem dX11_seamsOf_20 : decode cX11_seamsOf 20 = .ok (.iconst 0, 1) := by decide +kernel
theorem dX11_seamsOf_21 : decode cX11_seamsOf 21 = .ok (.invokestatic 244, 3) := by decide +kernel
theorem dX11_seamsOf_24 : decode cX11_seamsOf 24 = .ok (.istore 5, 2) := by decide +kernel
theorem dX11_seamsOf_26 : decode cX11_seamsOf 26 = .ok (.aload_n 0, 1) := by decide +kernel
theorem dX11_seamsOf_27 : decode cX11_seamsOf 27 = .ok (.iload_n 2, 1) := by decide +kernel
theorem dX11_seamsOf_28 : decode cX11_seamsOf 28 = .ok (.iload 4, 2) := by decide +kernel
theorem dX11_seamsOf_30 : decode cX11_seamsOf 30 = .ok (.invokevirtual 248, 3) := by decide +kernel
theorem dX11_seamsOf_33 : decode cX11_seamsOf 33 = .ok (.ifCond .ne 6, 3) := by decide +kernel
theorem dX11_seamsOf_36 : decode cX11_seamsOf 36 = .ok (.goto 93, 3) := by decide +kernel
theorem dX11_seamsOf_39 : decode cX11_seamsOf 39 = .ok (.iload_n 3, 1) := by decide +kernel
theorem dX11_seamsOf_40 : decode cX11_seamsOf 40 = .ok (.aload_n 0, 1) := by decide +kernel
theorem dX11_seamsOf_41 : decode cX11_seamsOf 41 = .ok (.iload_n 2, 1) := by decide +kernel
theorem dX11_seamsOf_42 : decode cX11_seamsOf 42 = .ok (.iload 4, 2) := by decide +kernel
theorem dX11_seamsOf_44 : decode cX11_seamsOf 44 = .ok (.iconst 4, 1) := by decide +kernel
theorem dX11_seamsOf_45 : decode cX11_seamsOf 45 = .ok (.irem, 1) := by decide +kernel
theorem dX11_seamsOf_46 : decode cX11_seamsOf 46 = .ok (.iconst 1, 1) := by decide +kernel
theorem dX11_seamsOf_47 : decode cX11_seamsOf 47 = .ok (.iadd, 1) := by decide +kernel
theorem dX11_seamsOf_48 : decode cX11_seamsOf 48 = .ok (.iload 4, 2) := by decide +kernel
theorem dX11_seamsOf_50 : decode cX11_seamsOf 50 = .ok (.iconst 4, 1) := by decide +kernel
theorem dX11_seamsOf_51 : decode cX11_seamsOf 51 = .ok (.idiv, 1) := by decide +kernel
theorem dX11_seamsOf_52 : decode cX11_seamsOf 52 = .ok (.invokevirtual 237, 3) := by decide +kernel
theorem dX11_seamsOf_55 : decode cX11_seamsOf 55 = .ok (.ifCond .eq 26, 3) := by decide +kernel
theorem dX11_seamsOf_58 : decode cX11_seamsOf 58 = .ok (.aload_n 1, 1) := by decide +kernel
theorem dX11_seamsOf_59 : decode cX11_seamsOf 59 = .ok (.bipush 16, 2) := by decide +kernel
theorem dX11_seamsOf_61 : decode cX11_seamsOf 61 = .ok (.iload_n 2, 1) := by decide +kernel
theorem dX11_seamsOf_62 : decode cX11_seamsOf 62 = .ok (.imul, 1) := by decide +kernel
theorem dX11_seamsOf_63 : decode cX11_seamsOf 63 = .ok (.iload 4, 2) := by decide +kernel
theorem dX11_seamsOf_65 : decode cX11_seamsOf 65 = .ok (.iadd, 1) := by decide +kernel
theorem dX11_seamsOf_66 : decode cX11_seamsOf 66 = .ok (.iconst 1, 1) := by decide +kernel
theorem dX11_seamsOf_67 : decode cX11_seamsOf 67 = .ok (.iadd, 1) := by decide +kernel
theorem dX11_seamsOf_68 : decode cX11_seamsOf 68 = .ok (.iconst 0, 1) := by decide +kernel
theorem dX11_seamsOf_69 : decode cX11_seamsOf 69 = .ok (.invokestatic 244, 3) := by decide +kernel
theorem dX11_seamsOf_72 : decode cX11_seamsOf 72 = .ok (.iload 5, 2) := by decide +kernel
theorem dX11_seamsOf_74 : decode cX11_seamsOf 74 = .ok (.if_icmp .eq 7, 3) := by decide +kernel
theorem dX11_seamsOf_77 : decode cX11_seamsOf 77 = .ok (.iconst 1, 1) := by decide +kernel
theorem dX11_seamsOf_78 : decode cX11_seamsOf 78 = .ok (.goto 4, 3) := by decide +kernel
theorem dX11_seamsOf_81 : decode cX11_seamsOf 81 = .ok (.iconst 0, 1) := by decide +kernel
theorem dX11_seamsOf_82 : decode cX11_seamsOf 82 = .ok (.iadd, 1) := by decide +kernel
theorem dX11_seamsOf_83 : decode cX11_seamsOf 83 = .ok (.istore_n 3, 1) := by decide +kernel
theorem dX11_seamsOf_84 : decode cX11_seamsOf 84 = .ok (.iload_n 3, 1) := by decide +kernel
theorem dX11_seamsOf_85 : decode cX11_seamsOf 85 = .ok (.aload_n 0, 1) := by decide +kernel
theorem dX11_seamsOf_86 : decode cX11_seamsOf 86 = .ok (.iload_n 2, 1) := by decide +kernel
theorem dX11_seamsOf_87 : decode cX11_seamsOf 87 = .ok (.iload 4, 2) := by decide +kernel
theorem dX11_seamsOf_89 : decode cX11_seamsOf 89 = .ok (.iconst 4, 1) := by decide +kernel
theorem dX11_seamsOf_90 : decode cX11_seamsOf 90 = .ok (.irem, 1) := by decide +kernel
theorem dX11_seamsOf_91 : decode cX11_seamsOf 91 = .ok (.iload 4, 2) := by decide +kernel
theorem dX11_seamsOf_93 : decode cX11_seamsOf 93 = .ok (.iconst 4, 1) := by decide +kernel
theorem dX11_seamsOf_94 : decode cX11_seamsOf 94 = .ok (.idiv, 1) := by decide +kernel
theorem dX11_seamsOf_95 : decode cX11_seamsOf 95 = .ok (.iconst 1, 1) := by decide +kernel
theorem dX11_seamsOf_96 : decode cX11_seamsOf 96 = .ok (.iadd, 1) := by decide +kernel
theorem dX11_seamsOf_97 : decode cX11_seamsOf 97 = .ok (.invokevirtual 237, 3) := by decide +kernel
theorem dX11_seamsOf_100 : decode cX11_seamsOf 100 = .ok (.ifCond .eq 26, 3) := by decide +kernel
theorem dX11_seamsOf_103 : decode cX11_seamsOf 103 = .ok (.aload_n 1, 1) := by decide +kernel
theorem dX11_seamsOf_104 : decode cX11_seamsOf 104 = .ok (.bipush 16, 2) := by decide +kernel
theorem dX11_seamsOf_106 : decode cX11_seamsOf 106 = .ok (.iload_n 2, 1) := by decide +kernel
theorem dX11_seamsOf_107 : decode cX11_seamsOf 107 = .ok (.imul, 1) := by decide +kernel
theorem dX11_seamsOf_108 : decode cX11_seamsOf 108 = .ok (.iload 4, 2) := by decide +kernel
theorem dX11_seamsOf_110 : decode cX11_seamsOf 110 = .ok (.iadd, 1) := by decide +kernel
theorem dX11_seamsOf_111 : decode cX11_seamsOf 111 = .ok (.iconst 4, 1) := by decide +kernel
theorem dX11_seamsOf_112 : decode cX11_seamsOf 112 = .ok (.iadd, 1) := by decide +kernel
theorem dX11_seamsOf_113 : decode cX11_seamsOf 113 = .ok (.iconst 0, 1) := by decide +kernel
theorem dX11_seamsOf_114 : decode cX11_seamsOf 114 = .ok (.invokestatic 244, 3) := by decide +kernel
theorem dX11_seamsOf_117 : decode cX11_seamsOf 117 = .ok (.iload 5, 2) := by decide +kernel
theorem dX11_seamsOf_119 : decode cX11_seamsOf 119 = .ok (.if_icmp .eq 7, 3) := by decide +kernel
theorem dX11_seamsOf_122 : decode cX11_seamsOf 122 = .ok (.iconst 1, 1) := by decide +kernel
theorem dX11_seamsOf_123 : decode cX11_seamsOf 123 = .ok (.goto 4, 3) := by decide +kernel
theorem dX11_seamsOf_126 : decode cX11_seamsOf 126 = .ok (.iconst 0, 1) := by decide +kernel
theorem dX11_seamsOf_127 : decode cX11_seamsOf 127 = .ok (.iadd, 1) := by decide +kernel
theorem dX11_seamsOf_128 : decode cX11_seamsOf 128 = .ok (.istore_n 3, 1) := by decide +kernel
theorem dX11_seamsOf_129 : decode cX11_seamsOf 129 = .ok (.iinc 4 1, 3) := by decide +kernel
theorem dX11_seamsOf_132 : decode cX11_seamsOf 132 = .ok (.goto (-127), 3) := by decide +kernel
theorem dX11_seamsOf_135 : decode cX11_seamsOf 135 = .ok (.iload_n 3, 1) := by decide +kernel
theorem dX11_seamsOf_136 : decode cX11_seamsOf 136 = .ok (.ireturn, 1) := by decide +kernel
theorem dX11_seams_0 : decode cX11_seams 0 = .ok (.aload_n 0, 1) := by decide +kernel
theorem dX11_seams_1 : decode cX11_seams 1 = .ok (.iconst 0, 1) := by decide +kernel
theorem dX11_seams_2 : decode cX11_seams 2 = .ok (.putfield 85, 3) := by decide +kernel
theorem dX11_seams_5 : decode cX11_seams 5 = .ok (.aload_n 0, 1) := by decide +kernel
theorem dX11_seams_6 : decode cX11_seams 6 = .ok (.aload_n 0, 1) := by decide +kernel
theorem dX11_seams_7 : decode cX11_seams 7 = .ok (.iload_n 1, 1) := by decide +kernel
theorem dX11_seams_8 : decode cX11_seams 8 = .ok (.invokevirtual 315, 3) := by decide +kernel
theorem dX11_seams_11 : decode cX11_seams 11 = .ok (.ifCond .ne 7, 3) := by decide +kernel
theorem dX11_seams_14 : decode cX11_seams 14 = .ok (.iconst 1, 1) := by decide +kernel
theorem dX11_seams_15 : decode cX11_seams 15 = .ok (.goto 4, 3) := by decide +kernel
theorem dX11_seams_18 : decode cX11_seams 18 = .ok (.iconst 0, 1) := by decide +kernel
theorem dX11_seams_19 : decode cX11_seams 19 = .ok (.iconst 1, 1) := by decide +kernel
theorem dX11_seams_20 : decode cX11_seams 20 = .ok (.iconst 1, 1) := by decide +kernel
theorem dX11_seams_21 : decode cX11_seams 21 = .ok (.invokevirtual 158, 3) := by decide +kernel
theorem dX11_seams_24 : decode cX11_seams 24 = .ok (.ifCond .eq 5, 3) := by decide +kernel
theorem dX11_seams_27 : decode cX11_seams 27 = .ok (.iconst 0, 1) := by decide +kernel
theorem dX11_seams_28 : decode cX11_seams 28 = .ok (.ireturn, 1) := by decide +kernel
theorem dX11_seams_29 : decode cX11_seams 29 = .ok (.aload_n 0, 1) := by decide +kernel
theorem dX11_seams_30 : decode cX11_seams 30 = .ok (.aload_n 0, 1) := by decide +kernel
theorem dX11_seams_31 : decode cX11_seams 31 = .ok (.getfield 67, 3) := by decide +kernel
theorem dX11_seams_34 : decode cX11_seams 34 = .ok (.iload_n 1, 1) := by decide +kernel
theorem dX11_seams_35 : decode cX11_seams 35 = .ok (.invokevirtual 348, 3) := by decide +kernel
theorem dX11_seams_38 : decode cX11_seams 38 = .ok (.ireturn, 1) := by decide +kernel
theorem dX11_sightsOf_0 : decode cX11_sightsOf 0 = .ok (.iconst 0, 1) := by decide +kernel
theorem dX11_sightsOf_1 : decode cX11_sightsOf 1 = .ok (.istore_n 2, 1) := by decide +kernel
theorem dX11_sightsOf_2 : decode cX11_sightsOf 2 = .ok (.iconst 0, 1) := by decide +kernel
theorem dX11_sightsOf_3 : decode cX11_sightsOf 3 = .ok (.istore_n 3, 1) := by decide +kernel
theorem dX11_sightsOf_4 : decode cX11_sightsOf 4 = .ok (.iload_n 3, 1) := by decide +kernel
theorem dX11_sightsOf_5 : decode cX11_sightsOf 5 = .ok (.bipush 16, 2) := by decide +kernel
theorem dX11_sightsOf_7 : decode cX11_sightsOf 7 = .ok (.if_icmp .ge 91, 3) := by decide +kernel
theorem dX11_sightsOf_10 : decode cX11_sightsOf 10 = .ok (.aload_n 0, 1) := by decide +kernel
theorem dX11_sightsOf_11 : decode cX11_sightsOf 11 = .ok (.bipush 16, 2) := by decide +kernel
theorem dX11_sightsOf_13 : decode cX11_sightsOf 13 = .ok (.iload_n 1, 1) := by decide +kernel
theorem dX11_sightsOf_14 : decode cX11_sightsOf 14 = .ok (.imul, 1) := by decide +kernel
theorem dX11_sightsOf_15 : decode cX11_sightsOf 15 = .ok (.iload_n 3, 1) := by decide +kernel
theorem dX11_sightsOf_16 : decode cX11_sightsOf 16 = .ok (.iadd, 1) := by decide +kernel
theorem dX11_sightsOf_17 : decode cX11_sightsOf 17 = .ok (.iconst 0, 1) := by decide +kernel
theorem dX11_sightsOf_18 : decode cX11_sightsOf 18 = .ok (.invokestatic 244, 3) := by decide +kernel
theorem dX11_sightsOf_21 : decode cX11_sightsOf 21 = .ok (.istore 4, 2) := by decide +kernel
theorem dX11_sightsOf_23 : decode cX11_sightsOf 23 = .ok (.iload 4, 2) := by decide +kernel
theorem dX11_sightsOf_25 : decode cX11_sightsOf 25 = .ok (.ifCond .le 7, 3) := by decide +kernel
theorem dX11_sightsOf_28 : decode cX11_sightsOf 28 = .ok (.iconst 1, 1) := by decide +kernel
theorem dX11_sightsOf_29 : decode cX11_sightsOf 29 = .ok (.goto 4, 3) := by decide +kernel
theorem dX11_sightsOf_32 : decode cX11_sightsOf 32 = .ok (.iconst 0, 1) := by decide +kernel
theorem dX11_sightsOf_33 : decode cX11_sightsOf 33 = .ok (.istore 5, 2) := by decide +kernel
theorem dX11_sightsOf_35 : decode cX11_sightsOf 35 = .ok (.iconst 0, 1) := by decide +kernel
theorem dX11_sightsOf_36 : decode cX11_sightsOf 36 = .ok (.istore 6, 2) := by decide +kernel
theorem dX11_sightsOf_38 : decode cX11_sightsOf 38 = .ok (.iload 6, 2) := by decide +kernel
theorem dX11_sightsOf_40 : decode cX11_sightsOf 40 = .ok (.iload_n 3, 1) := by decide +kernel
theorem dX11_sightsOf_41 : decode cX11_sightsOf 41 = .ok (.if_icmp .ge 38, 3) := by decide +kernel
theorem dX11_sightsOf_44 : decode cX11_sightsOf 44 = .ok (.iload 5, 2) := by decide +kernel
theorem dX11_sightsOf_46 : decode cX11_sightsOf 46 = .ok (.ifCond .eq 24, 3) := by decide +kernel
theorem dX11_sightsOf_49 : decode cX11_sightsOf 49 = .ok (.aload_n 0, 1) := by decide +kernel
theorem dX11_sightsOf_50 : decode cX11_sightsOf 50 = .ok (.bipush 16, 2) := by decide +kernel
theorem dX11_sightsOf_52 : decode cX11_sightsOf 52 = .ok (.iload_n 1, 1) := by decide +kernel
theorem dX11_sightsOf_53 : decode cX11_sightsOf 53 = .ok (.imul, 1) := by decide +kernel
theorem dX11_sightsOf_54 : decode cX11_sightsOf 54 = .ok (.iload 6, 2) := by decide +kernel
theorem dX11_sightsOf_56 : decode cX11_sightsOf 56 = .ok (.iadd, 1) := by decide +kernel
theorem dX11_sightsOf_57 : decode cX11_sightsOf 57 = .ok (.iconst 0, 1) := by decide +kernel
theorem dX11_sightsOf_58 : decode cX11_sightsOf 58 = .ok (.invokestatic 244, 3) := by decide +kernel
theorem dX11_sightsOf_61 : decode cX11_sightsOf 61 = .ok (.iload 4, 2) := by decide +kernel
theorem dX11_sightsOf_63 : decode cX11_sightsOf 63 = .ok (.if_icmp .eq 7, 3) := by decide +kernel
theorem dX11_sightsOf_66 : decode cX11_sightsOf 66 = .ok (.iconst 1, 1) := by decide +kernel
theorem dX11_sightsOf_67 : decode cX11_sightsOf 67 = .ok (.goto 4, 3) := by decide +kernel
theorem dX11_sightsOf_70 : decode cX11_sightsOf 70 = .ok (.iconst 0, 1) := by decide +kernel
theorem dX11_sightsOf_71 : decode cX11_sightsOf 71 = .ok (.istore 5, 2) := by decide +kernel
theorem dX11_sightsOf_73 : decode cX11_sightsOf 73 = .ok (.iinc 6 1, 3) := by decide +kernel
theorem dX11_sightsOf_76 : decode cX11_sightsOf 76 = .ok (.goto (-38), 3) := by decide +kernel
theorem dX11_sightsOf_79 : decode cX11_sightsOf 79 = .ok (.iload_n 2, 1) := by decide +kernel
theorem dX11_sightsOf_80 : decode cX11_sightsOf 80 = .ok (.iload 5, 2) := by decide +kernel
theorem dX11_sightsOf_82 : decode cX11_sightsOf 82 = .ok (.ifCond .eq 7, 3) := by decide +kernel
theorem dX11_sightsOf_85 : decode cX11_sightsOf 85 = .ok (.iconst 1, 1) := by decide +kernel
theorem dX11_sightsOf_86 : decode cX11_sightsOf 86 = .ok (.goto 4, 3) := by decide +kernel
theorem dX11_sightsOf_89 : decode cX11_sightsOf 89 = .ok (.iconst 0, 1) := by decide +kernel
theorem dX11_sightsOf_90 : decode cX11_sightsOf 90 = .ok (.iadd, 1) := by decide +kernel
theorem dX11_sightsOf_91 : decode cX11_sightsOf 91 = .ok (.istore_n 2, 1) := by decide +kernel
theorem dX11_sightsOf_92 : decode cX11_sightsOf 92 = .ok (.iinc 3 1, 3) := by decide +kernel
theorem dX11_sightsOf_95 : decode cX11_sightsOf 95 = .ok (.goto (-91), 3) := by decide +kernel
theorem dX11_sightsOf_98 : decode cX11_sightsOf 98 = .ok (.iload_n 2, 1) := by decide +kernel
theorem dX11_sightsOf_99 : decode cX11_sightsOf 99 = .ok (.ireturn, 1) := by decide +kernel
theorem dX11_sights_0 : decode cX11_sights 0 = .ok (.aload_n 0, 1) := by decide +kernel
theorem dX11_sights_1 : decode cX11_sights 1 = .ok (.iconst 0, 1) := by decide +kernel
theorem dX11_sights_2 : decode cX11_sights 2 = .ok (.putfield 85, 3) := by decide +kernel
theorem dX11_sights_5 : decode cX11_sights 5 = .ok (.aload_n 0, 1) := by decide +kernel
theorem dX11_sights_6 : decode cX11_sights 6 = .ok (.aload_n 0, 1) := by decide +kernel
theorem dX11_sights_7 : decode cX11_sights 7 = .ok (.iload_n 1, 1) := by decide +kernel
theorem dX11_sights_8 : decode cX11_sights 8 = .ok (.invokevirtual 315, 3) := by decide +kernel
theorem dX11_sights_11 : decode cX11_sights 11 = .ok (.ifCond .ne 7, 3) := by decide +kernel
theorem dX11_sights_14 : decode cX11_sights 14 = .ok (.iconst 1, 1) := by decide +kernel
theorem dX11_sights_15 : decode cX11_sights 15 = .ok (.goto 4, 3) := by decide +kernel
theorem dX11_sights_18 : decode cX11_sights 18 = .ok (.iconst 0, 1) := by decide +kernel
theorem dX11_sights_19 : decode cX11_sights 19 = .ok (.iconst 1, 1) := by decide +kernel
theorem dX11_sights_20 : decode cX11_sights 20 = .ok (.iconst 1, 1) := by decide +kernel
theorem dX11_sights_21 : decode cX11_sights 21 = .ok (.invokevirtual 158, 3) := by decide +kernel
theorem dX11_sights_24 : decode cX11_sights 24 = .ok (.ifCond .eq 5, 3) := by decide +kernel
theorem dX11_sights_27 : decode cX11_sights 27 = .ok (.iconst 0, 1) := by decide +kernel
theorem dX11_sights_28 : decode cX11_sights 28 = .ok (.ireturn, 1) := by decide +kernel
theorem dX11_sights_29 : decode cX11_sights 29 = .ok (.aload_n 0, 1) := by decide +kernel
theorem dX11_sights_30 : decode cX11_sights 30 = .ok (.getfield 67, 3) := by decide +kernel
theorem dX11_sights_33 : decode cX11_sights 33 = .ok (.iload_n 1, 1) := by decide +kernel
theorem dX11_sights_34 : decode cX11_sights 34 = .ok (.invokestatic 351, 3) := by decide +kernel
theorem dX11_sights_37 : decode cX11_sights 37 = .ok (.ireturn, 1) := by decide +kernel
theorem dX11_alike_0 : decode cX11_alike 0 = .ok (.aload_n 0, 1) := by decide +kernel
theorem dX11_alike_1 : decode cX11_alike 1 = .ok (.iconst 0, 1) := by decide +kernel
theorem dX11_alike_2 : decode cX11_alike 2 = .ok (.putfield 85, 3) := by decide +kernel
theorem dX11_alike_5 : decode cX11_alike 5 = .ok (.aload_n 0, 1) := by decide +kernel
theorem dX11_alike_6 : decode cX11_alike 6 = .ok (.aload_n 0, 1) := by decide +kernel
theorem dX11_alike_7 : decode cX11_alike 7 = .ok (.iload_n 1, 1) := by decide +kernel
theorem dX11_alike_8 : decode cX11_alike 8 = .ok (.invokevirtual 315, 3) := by decide +kernel
theorem dX11_alike_11 : decode cX11_alike 11 = .ok (.ifCond .eq 11, 3) := by decide +kernel
theorem dX11_alike_14 : decode cX11_alike 14 = .ok (.aload_n 0, 1) := by decide +kernel
theorem dX11_alike_15 : decode cX11_alike 15 = .ok (.iload_n 2, 1) := by decide +kernel
theorem dX11_alike_16 : decode cX11_alike 16 = .ok (.invokevirtual 315, 3) := by decide +kernel
theorem dX11_alike_19 : decode cX11_alike 19 = .ok (.ifCond .ne 7, 3) := by decide +kernel
theorem dX11_alike_22 : decode cX11_alike 22 = .ok (.iconst 1, 1) := by decide +kernel
theorem dX11_alike_23 : decode cX11_alike 23 = .ok (.goto 4, 3) := by decide +kernel
theorem dX11_alike_26 : decode cX11_alike 26 = .ok (.iconst 0, 1) := by decide +kernel
theorem dX11_alike_27 : decode cX11_alike 27 = .ok (.iconst 1, 1) := by decide +kernel
theorem dX11_alike_28 : decode cX11_alike 28 = .ok (.iconst 1, 1) := by decide +kernel
theorem dX11_alike_29 : decode cX11_alike 29 = .ok (.invokevirtual 158, 3) := by decide +kernel
theorem dX11_alike_32 : decode cX11_alike 32 = .ok (.ifCond .eq 5, 3) := by decide +kernel
theorem dX11_alike_35 : decode cX11_alike 35 = .ok (.iconst 0, 1) := by decide +kernel
theorem dX11_alike_36 : decode cX11_alike 36 = .ok (.ireturn, 1) := by decide +kernel
theorem dX11_alike_37 : decode cX11_alike 37 = .ok (.iconst 0, 1) := by decide +kernel
theorem dX11_alike_38 : decode cX11_alike 38 = .ok (.istore_n 3, 1) := by decide +kernel
theorem dX11_alike_39 : decode cX11_alike 39 = .ok (.iconst 0, 1) := by decide +kernel
theorem dX11_alike_40 : decode cX11_alike 40 = .ok (.istore 4, 2) := by decide +kernel
theorem dX11_alike_42 : decode cX11_alike 42 = .ok (.iload 4, 2) := by decide +kernel
theorem dX11_alike_44 : decode cX11_alike 44 = .ok (.bipush 16, 2) := by decide +kernel
theorem dX11_alike_46 : decode cX11_alike 46 = .ok (.if_icmp .ge 73, 3) := by decide +kernel
theorem dX11_alike_49 : decode cX11_alike 49 = .ok (.iload_n 3, 1) := by decide +kernel
theorem dX11_alike_50 : decode cX11_alike 50 = .ok (.aload_n 0, 1) := by decide +kernel
theorem dX11_alike_51 : decode cX11_alike 51 = .ok (.iload_n 1, 1) := by decide +kernel
theorem dX11_alike_52 : decode cX11_alike 52 = .ok (.iload 4, 2) := by decide +kernel
theorem dX11_alike_54 : decode cX11_alike 54 = .ok (.invokevirtual 248, 3) := by decide +kernel
theorem dX11_alike_57 : decode cX11_alike 57 = .ok (.ifCond .eq 53, 3) := by decide +kernel
theorem dX11_alike_60 : decode cX11_alike 60 = .ok (.aload_n 0, 1) := by decide +kernel
theorem dX11_alike_61 : decode cX11_alike 61 = .ok (.iload_n 2, 1) := by decide +kernel
theorem dX11_alike_62 : decode cX11_alike 62 = .ok (.iload 4, 2) := by decide +kernel
theorem dX11_alike_64 : decode cX11_alike 64 = .ok (.invokevirtual 248, 3) := by decide +kernel
theorem dX11_alike_67 : decode cX11_alike 67 = .ok (.ifCond .eq 43, 3) := by decide +kernel
theorem dX11_alike_70 : decode cX11_alike 70 = .ok (.aload_n 0, 1) := by decide +kernel
theorem dX11_alike_71 : decode cX11_alike 71 = .ok (.getfield 67, 3) := by decide +kernel
theorem dX11_alike_74 : decode cX11_alike 74 = .ok (.bipush 16, 2) := by decide +kernel
theorem dX11_alike_76 : decode cX11_alike 76 = .ok (.iload_n 1, 1) := by decide +kernel
theorem dX11_alike_77 : decode cX11_alike 77 = .ok (.imul, 1) := by decide +kernel
theorem dX11_alike_78 : decode cX11_alike 78 = .ok (.iload 4, 2) := by decide +kernel
theorem dX11_alike_80 : decode cX11_alike 80 = .ok (.iadd, 1) := by decide +kernel
theorem dX11_alike_81 : decode cX11_alike 81 = .ok (.iconst 0, 1) := by decide +kernel
theorem dX11_alike_82 : decode cX11_alike 82 = .ok (.invokestatic 244, 3) := by decide +kernel
theorem dX11_alike_85 : decode cX11_alike 85 = .ok (.aload_n 0, 1) := by decide +kernel
theorem dX11_alike_86 : decode cX11_alike 86 = .ok (.getfield 67, 3) := by decide +kernel
theorem dX11_alike_89 : decode cX11_alike 89 = .ok (.bipush 16, 2) := by decide +kernel
theorem dX11_alike_91 : decode cX11_alike 91 = .ok (.iload_n 2, 1) := by decide +kernel
theorem dX11_alike_92 : decode cX11_alike 92 = .ok (.imul, 1) := by decide +kernel
theorem dX11_alike_93 : decode cX11_alike 93 = .ok (.iload 4, 2) := by decide +kernel
theorem dX11_alike_95 : decode cX11_alike 95 = .ok (.iadd, 1) := by decide +kernel
theorem dX11_alike_96 : decode cX11_alike 96 = .ok (.iconst 0, 1) := by decide +kernel
theorem dX11_alike_97 : decode cX11_alike 97 = .ok (.invokestatic 244, 3) := by decide +kernel
theorem dX11_alike_100 : decode cX11_alike 100 = .ok (.if_icmp .ne 10, 3) := by decide +kernel
theorem dX11_alike_103 : decode cX11_alike 103 = .ok (.iconst 1, 1) := by decide +kernel
theorem dX11_alike_104 : decode cX11_alike 104 = .ok (.iload 4, 2) := by decide +kernel
theorem dX11_alike_106 : decode cX11_alike 106 = .ok (.ishl, 1) := by decide +kernel
theorem dX11_alike_107 : decode cX11_alike 107 = .ok (.goto 4, 3) := by decide +kernel
theorem dX11_alike_110 : decode cX11_alike 110 = .ok (.iconst 0, 1) := by decide +kernel
theorem dX11_alike_111 : decode cX11_alike 111 = .ok (.ior, 1) := by decide +kernel
theorem dX11_alike_112 : decode cX11_alike 112 = .ok (.istore_n 3, 1) := by decide +kernel
theorem dX11_alike_113 : decode cX11_alike 113 = .ok (.iinc 4 1, 3) := by decide +kernel
theorem dX11_alike_116 : decode cX11_alike 116 = .ok (.goto (-74), 3) := by decide +kernel
theorem dX11_alike_119 : decode cX11_alike 119 = .ok (.iload_n 3, 1) := by decide +kernel
theorem dX11_alike_120 : decode cX11_alike 120 = .ok (.ireturn, 1) := by decide +kernel
theorem dX11_oldest_0 : decode cX11_oldest 0 = .ok (.aload_n 0, 1) := by decide +kernel
theorem dX11_oldest_1 : decode cX11_oldest 1 = .ok (.iconst 0, 1) := by decide +kernel
theorem dX11_oldest_2 : decode cX11_oldest 2 = .ok (.putfield 85, 3) := by decide +kernel
theorem dX11_oldest_5 : decode cX11_oldest 5 = .ok (.aload_n 0, 1) := by decide +kernel
theorem dX11_oldest_6 : decode cX11_oldest 6 = .ok (.aload_n 0, 1) := by decide +kernel
theorem dX11_oldest_7 : decode cX11_oldest 7 = .ok (.iload_n 1, 1) := by decide +kernel
theorem dX11_oldest_8 : decode cX11_oldest 8 = .ok (.invokevirtual 315, 3) := by decide +kernel
theorem dX11_oldest_11 : decode cX11_oldest 11 = .ok (.ifCond .ne 7, 3) := by decide +kernel
theorem dX11_oldest_14 : decode cX11_oldest 14 = .ok (.iconst 1, 1) := by decide +kernel
theorem dX11_oldest_15 : decode cX11_oldest 15 = .ok (.goto 4, 3) := by decide +kernel
theorem dX11_oldest_18 : decode cX11_oldest 18 = .ok (.iconst 0, 1) := by decide +kernel
theorem dX11_oldest_19 : decode cX11_oldest 19 = .ok (.iconst 1, 1) := by decide +kernel
theorem dX11_oldest_20 : decode cX11_oldest 20 = .ok (.iconst 1, 1) := by decide +kernel
theorem dX11_oldest_21 : decode cX11_oldest 21 = .ok (.invokevirtual 158, 3) := by decide +kernel
theorem dX11_oldest_24 : decode cX11_oldest 24 = .ok (.ifCond .ne 26, 3) := by decide +kernel
theorem dX11_oldest_27 : decode cX11_oldest 27 = .ok (.aload_n 0, 1) := by decide +kernel
theorem dX11_oldest_28 : decode cX11_oldest 28 = .ok (.iload_n 2, 1) := by decide +kernel
theorem dX11_oldest_29 : decode cX11_oldest 29 = .ok (.iconst 0, 1) := by decide +kernel
theorem dX11_oldest_30 : decode cX11_oldest 30 = .ok (.iconst 1, 1) := by decide +kernel
theorem dX11_oldest_31 : decode cX11_oldest 31 = .ok (.invokestatic 119, 3) := by decide +kernel
theorem dX11_oldest_34 : decode cX11_oldest 34 = .ok (.ifCond .ne 7, 3) := by decide +kernel
theorem dX11_oldest_37 : decode cX11_oldest 37 = .ok (.iconst 1, 1) := by decide +kernel
theorem dX11_oldest_38 : decode cX11_oldest 38 = .ok (.goto 4, 3) := by decide +kernel
theorem dX11_oldest_41 : decode cX11_oldest 41 = .ok (.iconst 0, 1) := by decide +kernel
theorem dX11_oldest_42 : decode cX11_oldest 42 = .ok (.iconst 2, 1) := by decide +kernel
theorem dX11_oldest_43 : decode cX11_oldest 43 = .ok (.iconst 2, 1) := by decide +kernel
theorem dX11_oldest_44 : decode cX11_oldest 44 = .ok (.invokevirtual 158, 3) := by decide +kernel
theorem dX11_oldest_47 : decode cX11_oldest 47 = .ok (.ifCond .eq 5, 3) := by decide +kernel
theorem dX11_oldest_50 : decode cX11_oldest 50 = .ok (.iconst 0, 1) := by decide +kernel
theorem dX11_oldest_51 : decode cX11_oldest 51 = .ok (.ireturn, 1) := by decide +kernel
theorem dX11_oldest_52 : decode cX11_oldest 52 = .ok (.iconst (-1), 1) := by decide +kernel
theorem dX11_oldest_53 : decode cX11_oldest 53 = .ok (.istore_n 3, 1) := by decide +kernel
theorem dX11_oldest_54 : decode cX11_oldest 54 = .ok (.iconst 1, 1) := by decide +kernel
theorem dX11_oldest_55 : decode cX11_oldest 55 = .ok (.istore 4, 2) := by decide +kernel
theorem dX11_oldest_57 : decode cX11_oldest 57 = .ok (.iload 4, 2) := by decide +kernel
theorem dX11_oldest_59 : decode cX11_oldest 59 = .ok (.sipush 200, 3) := by decide +kernel
theorem dX11_oldest_62 : decode cX11_oldest 62 = .ok (.if_icmp .gt 119, 3) := by decide +kernel
theorem dX11_oldest_65 : decode cX11_oldest 65 = .ok (.iconst 0, 1) := by decide +kernel
theorem dX11_oldest_66 : decode cX11_oldest 66 = .ok (.istore 5, 2) := by decide +kernel
theorem dX11_oldest_68 : decode cX11_oldest 68 = .ok (.iconst 0, 1) := by decide +kernel
theorem dX11_oldest_69 : decode cX11_oldest 69 = .ok (.istore 6, 2) := by decide +kernel
theorem dX11_oldest_71 : decode cX11_oldest 71 = .ok (.iconst 0, 1) := by decide +kernel
theorem dX11_oldest_72 : decode cX11_oldest 72 = .ok (.istore 7, 2) := by decide +kernel
theorem dX11_oldest_74 : decode cX11_oldest 74 = .ok (.iload 7, 2) := by decide +kernel
theorem dX11_oldest_76 : decode cX11_oldest 76 = .ok (.bipush 16, 2) := by decide +kernel
theorem dX11_oldest_78 : decode cX11_oldest 78 = .ok (.if_icmp .ge 72, 3) := by decide +kernel
theorem dX11_oldest_81 : decode cX11_oldest 81 = .ok (.iload 5, 2) := by decide +kernel
theorem dX11_oldest_83 : decode cX11_oldest 83 = .ok (.ifCond .ne 22, 3) := by decide +kernel
theorem dX11_oldest_86 : decode cX11_oldest 86 = .ok (.aload_n 0, 1) := by decide +kernel
theorem dX11_oldest_87 : decode cX11_oldest 87 = .ok (.getfield 67, 3) := by decide +kernel
theorem dX11_oldest_90 : decode cX11_oldest 90 = .ok (.bipush 16, 2) := by decide +kernel
theorem dX11_oldest_92 : decode cX11_oldest 92 = .ok (.iload_n 1, 1) := by decide +kernel
theorem dX11_oldest_93 : decode cX11_oldest 93 = .ok (.imul, 1) := by decide +kernel
theorem dX11_oldest_94 : decode cX11_oldest 94 = .ok (.iload 7, 2) := by decide +kernel
theorem dX11_oldest_96 : decode cX11_oldest 96 = .ok (.iadd, 1) := by decide +kernel
theorem dX11_oldest_97 : decode cX11_oldest 97 = .ok (.iload 4, 2) := by decide +kernel
theorem dX11_oldest_99 : decode cX11_oldest 99 = .ok (.invokestatic 324, 3) := by decide +kernel
theorem dX11_oldest_102 : decode cX11_oldest 102 = .ok (.ifCond .le 7, 3) := by decide +kernel
theorem dX11_oldest_105 : decode cX11_oldest 105 = .ok (.iconst 1, 1) := by decide +kernel
theorem dX11_oldest_106 : decode cX11_oldest 106 = .ok (.goto 4, 3) := by decide +kernel
theorem dX11_oldest_109 : decode cX11_oldest 109 = .ok (.iconst 0, 1) := by decide +kernel
theorem dX11_oldest_110 : decode cX11_oldest 110 = .ok (.istore 5, 2) := by decide +kernel
theorem dX11_oldest_112 : decode cX11_oldest 112 = .ok (.iload 6, 2) := by decide +kernel
theorem dX11_oldest_114 : decode cX11_oldest 114 = .ok (.ifCond .ne 23, 3) := by decide +kernel
theorem dX11_oldest_117 : decode cX11_oldest 117 = .ok (.aload_n 0, 1) := by decide +kernel
theorem dX11_oldest_118 : decode cX11_oldest 118 = .ok (.getfield 67, 3) := by decide +kernel
theorem dX11_oldest_121 : decode cX11_oldest 121 = .ok (.bipush 16, 2) := by decide +kernel
theorem dX11_oldest_123 : decode cX11_oldest 123 = .ok (.iload_n 1, 1) := by decide +kernel
theorem dX11_oldest_124 : decode cX11_oldest 124 = .ok (.imul, 1) := by decide +kernel
theorem dX11_oldest_125 : decode cX11_oldest 125 = .ok (.iload 7, 2) := by decide +kernel
theorem dX11_oldest_127 : decode cX11_oldest 127 = .ok (.iadd, 1) := by decide +kernel
theorem dX11_oldest_128 : decode cX11_oldest 128 = .ok (.iconst 0, 1) := by decide +kernel
theorem dX11_oldest_129 : decode cX11_oldest 129 = .ok (.invokestatic 244, 3) := by decide +kernel
theorem dX11_oldest_132 : decode cX11_oldest 132 = .ok (.iload 4, 2) := by decide +kernel
theorem dX11_oldest_134 : decode cX11_oldest 134 = .ok (.if_icmp .ne 7, 3) := by decide +kernel
theorem dX11_oldest_137 : decode cX11_oldest 137 = .ok (.iconst 1, 1) := by decide +kernel
theorem dX11_oldest_138 : decode cX11_oldest 138 = .ok (.goto 4, 3) := by decide +kernel
theorem dX11_oldest_141 : decode cX11_oldest 141 = .ok (.iconst 0, 1) := by decide +kernel
theorem dX11_oldest_142 : decode cX11_oldest 142 = .ok (.istore 6, 2) := by decide +kernel
theorem dX11_oldest_144 : decode cX11_oldest 144 = .ok (.iinc 7 1, 3) := by decide +kernel
theorem dX11_oldest_147 : decode cX11_oldest 147 = .ok (.goto (-73), 3) := by decide +kernel
theorem dX11_oldest_150 : decode cX11_oldest 150 = .ok (.iload 5, 2) := by decide +kernel
theorem dX11_oldest_152 : decode cX11_oldest 152 = .ok (.ifCond .eq 23, 3) := by decide +kernel
theorem dX11_oldest_155 : decode cX11_oldest 155 = .ok (.iload_n 2, 1) := by decide +kernel
theorem dX11_oldest_156 : decode cX11_oldest 156 = .ok (.ifCond .ne 11, 3) := by decide +kernel
theorem dX11_oldest_159 : decode cX11_oldest 159 = .ok (.iload_n 3, 1) := by decide +kernel
theorem dX11_oldest_160 : decode cX11_oldest 160 = .ok (.iconst (-1), 1) := by decide +kernel
theorem dX11_oldest_161 : decode cX11_oldest 161 = .ok (.if_icmp .ne 14, 3) := by decide +kernel
theorem dX11_oldest_164 : decode cX11_oldest 164 = .ok (.goto 8, 3) := by decide +kernel
theorem dX11_oldest_167 : decode cX11_oldest 167 = .ok (.iload 6, 2) := by decide +kernel
theorem dX11_oldest_169 : decode cX11_oldest 169 = .ok (.ifCond .ne 6, 3) := by decide +kernel
theorem dX11_oldest_172 : decode cX11_oldest 172 = .ok (.iload 4, 2) := by decide +kernel
theorem dX11_oldest_174 : decode cX11_oldest 174 = .ok (.istore_n 3, 1) := by decide +kernel
theorem dX11_oldest_175 : decode cX11_oldest 175 = .ok (.iinc 4 1, 3) := by decide +kernel
theorem dX11_oldest_178 : decode cX11_oldest 178 = .ok (.goto (-121), 3) := by decide +kernel
theorem dX11_oldest_181 : decode cX11_oldest 181 = .ok (.iload_n 3, 1) := by decide +kernel
theorem dX11_oldest_182 : decode cX11_oldest 182 = .ok (.ireturn, 1) := by decide +kernel
theorem dX11_thick_0 : decode cX11_thick 0 = .ok (.aload_n 0, 1) := by decide +kernel
theorem dX11_thick_1 : decode cX11_thick 1 = .ok (.iconst 0, 1) := by decide +kernel
theorem dX11_thick_2 : decode cX11_thick 2 = .ok (.putfield 85, 3) := by decide +kernel
theorem dX11_thick_5 : decode cX11_thick 5 = .ok (.iconst (-1), 1) := by decide +kernel
theorem dX11_thick_6 : decode cX11_thick 6 = .ok (.istore_n 1, 1) := by decide +kernel
theorem dX11_thick_7 : decode cX11_thick 7 = .ok (.iconst 0, 1) := by decide +kernel
theorem dX11_thick_8 : decode cX11_thick 8 = .ok (.istore_n 2, 1) := by decide +kernel
theorem dX11_thick_9 : decode cX11_thick 9 = .ok (.iconst 0, 1) := by decide +kernel
theorem dX11_thick_10 : decode cX11_thick 10 = .ok (.istore_n 3, 1) := by decide +kernel
theorem dX11_thick_11 : decode cX11_thick 11 = .ok (.iload_n 3, 1) := by decide +kernel
theorem dX11_thick_12 : decode cX11_thick 12 = .ok (.bipush 16, 2) := by decide +kernel
theorem dX11_thick_14 : decode cX11_thick 14 = .ok (.aload_n 0, 1) := by decide +kernel
theorem dX11_thick_15 : decode cX11_thick 15 = .ok (.getfield 23, 3) := by decide +kernel
theorem dX11_thick_18 : decode cX11_thick 18 = .ok (.iconst 0, 1) := by decide +kernel
theorem dX11_thick_19 : decode cX11_thick 19 = .ok (.iaload, 1) := by decide +kernel
theorem dX11_thick_20 : decode cX11_thick 20 = .ok (.imul, 1) := by decide +kernel
theorem dX11_thick_21 : decode cX11_thick 21 = .ok (.if_icmp .ge 39, 3) := by decide +kernel
theorem dX11_thick_24 : decode cX11_thick 24 = .ok (.aload_n 0, 1) := by decide +kernel
theorem dX11_thick_25 : decode cX11_thick 25 = .ok (.getfield 67, 3) := by decide +kernel
theorem dX11_thick_28 : decode cX11_thick 28 = .ok (.sipush 2400, 3) := by decide +kernel
theorem dX11_thick_31 : decode cX11_thick 31 = .ok (.iload_n 3, 1) := by decide +kernel
theorem dX11_thick_32 : decode cX11_thick 32 = .ok (.iadd, 1) := by decide +kernel
theorem dX11_thick_33 : decode cX11_thick 33 = .ok (.iaload, 1) := by decide +kernel
theorem dX11_thick_34 : decode cX11_thick 34 = .ok (.iload_n 2, 1) := by decide +kernel
theorem dX11_thick_35 : decode cX11_thick 35 = .ok (.if_icmp .gt 6, 3) := by decide +kernel
theorem dX11_thick_38 : decode cX11_thick 38 = .ok (.goto 16, 3) := by decide +kernel
theorem dX11_thick_41 : decode cX11_thick 41 = .ok (.iload_n 3, 1) := by decide +kernel
theorem dX11_thick_42 : decode cX11_thick 42 = .ok (.istore_n 1, 1) := by decide +kernel
theorem dX11_thick_43 : decode cX11_thick 43 = .ok (.aload_n 0, 1) := by decide +kernel
theorem dX11_thick_44 : decode cX11_thick 44 = .ok (.getfield 67, 3) := by decide +kernel
theorem dX11_thick_47 : decode cX11_thick 47 = .ok (.sipush 2400, 3) := by decide +kernel
theorem dX11_thick_50 : decode cX11_thick 50 = .ok (.iload_n 3, 1) := by decide +kernel
theorem dX11_thick_51 : decode cX11_thick 51 = .ok (.iadd, 1) := by decide +kernel
theorem dX11_thick_52 : decode cX11_thick 52 = .ok (.iaload, 1) := by decide +kernel
theorem dX11_thick_53 : decode cX11_thick 53 = .ok (.istore_n 2, 1) := by decide +kernel
theorem dX11_thick_54 : decode cX11_thick 54 = .ok (.iinc 3 1, 3) := by decide +kernel
theorem dX11_thick_57 : decode cX11_thick 57 = .ok (.goto (-46), 3) := by decide +kernel
theorem dX11_thick_60 : decode cX11_thick 60 = .ok (.iload_n 1, 1) := by decide +kernel
theorem dX11_thick_61 : decode cX11_thick 61 = .ok (.ireturn, 1) := by decide +kernel
theorem dX11_patchOf_0 : decode cX11_patchOf 0 = .ok (.iconst 1, 1) := by decide +kernel
theorem dX11_patchOf_1 : decode cX11_patchOf 1 = .ok (.iload_n 2, 1) := by decide +kernel
theorem dX11_patchOf_2 : decode cX11_patchOf 2 = .ok (.ishl, 1) := by decide +kernel
theorem dX11_patchOf_3 : decode cX11_patchOf 3 = .ok (.istore_n 3, 1) := by decide +kernel
theorem dX11_patchOf_4 : decode cX11_patchOf 4 = .ok (.aload_n 0, 1) := by decide +kernel
theorem dX11_patchOf_5 : decode cX11_patchOf 5 = .ok (.getfield 67, 3) := by decide +kernel
theorem dX11_patchOf_8 : decode cX11_patchOf 8 = .ok (.bipush 16, 2) := by decide +kernel
theorem dX11_patchOf_10 : decode cX11_patchOf 10 = .ok (.iload_n 1, 1) := by decide +kernel
theorem dX11_patchOf_11 : decode cX11_patchOf 11 = .ok (.imul, 1) := by decide +kernel
theorem dX11_patchOf_12 : decode cX11_patchOf 12 = .ok (.iload_n 2, 1) := by decide +kernel
theorem dX11_patchOf_13 : decode cX11_patchOf 13 = .ok (.iadd, 1) := by decide +kernel
theorem dX11_patchOf_14 : decode cX11_patchOf 14 = .ok (.iconst 0, 1) := by decide +kernel
theorem dX11_patchOf_15 : decode cX11_patchOf 15 = .ok (.invokestatic 244, 3) := by decide +kernel
theorem dX11_patchOf_18 : decode cX11_patchOf 18 = .ok (.istore 4, 2) := by decide +kernel
theorem dX11_patchOf_20 : decode cX11_patchOf 20 = .ok (.iconst 0, 1) := by decide +kernel
theorem dX11_patchOf_21 : decode cX11_patchOf 21 = .ok (.istore 5, 2) := by decide +kernel
theorem dX11_patchOf_23 : decode cX11_patchOf 23 = .ok (.iload 5, 2) := by decide +kernel
theorem dX11_patchOf_25 : decode cX11_patchOf 25 = .ok (.bipush 16, 2) := by decide +kernel
theorem dX11_patchOf_27 : decode cX11_patchOf 27 = .ok (.if_icmp .ge 117, 3) := by decide +kernel
theorem dX11_patchOf_30 : decode cX11_patchOf 30 = .ok (.iconst 0, 1) := by decide +kernel
theorem dX11_patchOf_31 : decode cX11_patchOf 31 = .ok (.istore 6, 2) := by decide +kernel
theorem dX11_patchOf_33 : decode cX11_patchOf 33 = .ok (.iload 6, 2) := by decide +kernel
theorem dX11_patchOf_35 : decode cX11_patchOf 35 = .ok (.bipush 16, 2) := by decide +kernel
theorem dX11_patchOf_37 : decode cX11_patchOf 37 = .ok (.if_icmp .ge 101, 3) := by decide +kernel
theorem dX11_patchOf_40 : decode cX11_patchOf 40 = .ok (.aload_n 0, 1) := by decide +kernel
theorem dX11_patchOf_41 : decode cX11_patchOf 41 = .ok (.iload_n 1, 1) := by decide +kernel
theorem dX11_patchOf_42 : decode cX11_patchOf 42 = .ok (.iload 6, 2) := by decide +kernel
theorem dX11_patchOf_44 : decode cX11_patchOf 44 = .ok (.invokevirtual 248, 3) := by decide +kernel
theorem dX11_patchOf_47 : decode cX11_patchOf 47 = .ok (.ifCond .eq 85, 3) := by decide +kernel
theorem dX11_patchOf_50 : decode cX11_patchOf 50 = .ok (.aload_n 0, 1) := by decide +kernel
theorem dX11_patchOf_51 : decode cX11_patchOf 51 = .ok (.getfield 67, 3) := by decide +kernel
theorem dX11_patchOf_54 : decode cX11_patchOf 54 = .ok (.bipush 16, 2) := by decide +kernel
theorem dX11_patchOf_56 : decode cX11_patchOf 56 = .ok (.iload_n 1, 1) := by decide +kernel
theorem dX11_patchOf_57 : decode cX11_patchOf 57 = .ok (.imul, 1) := by decide +kernel
theorem dX11_patchOf_58 : decode cX11_patchOf 58 = .ok (.iload 6, 2) := by decide +kernel
theorem dX11_patchOf_60 : decode cX11_patchOf 60 = .ok (.iadd, 1) := by decide +kernel
theorem dX11_patchOf_61 : decode cX11_patchOf 61 = .ok (.iconst 0, 1) := by decide +kernel
theorem dX11_patchOf_62 : decode cX11_patchOf 62 = .ok (.invokestatic 244, 3) := by decide +kernel
theorem dX11_patchOf_65 : decode cX11_patchOf 65 = .ok (.iload 4, 2) := by decide +kernel
theorem dX11_patchOf_67 : decode cX11_patchOf 67 = .ok (.if_icmp .eq 6, 3) := by decide +kernel
theorem dX11_patchOf_70 : decode cX11_patchOf 70 = .ok (.goto 62, 3) := by decide +kernel
theorem dX11_patchOf_73 : decode cX11_patchOf 73 = .ok (.iconst 0, 1) := by decide +kernel
theorem dX11_patchOf_74 : decode cX11_patchOf 74 = .ok (.istore 7, 2) := by decide +kernel
theorem dX11_patchOf_76 : decode cX11_patchOf 76 = .ok (.iload 7, 2) := by decide +kernel
theorem dX11_patchOf_78 : decode cX11_patchOf 78 = .ok (.bipush 16, 2) := by decide +kernel
theorem dX11_patchOf_80 : decode cX11_patchOf 80 = .ok (.if_icmp .ge 52, 3) := by decide +kernel
theorem dX11_patchOf_83 : decode cX11_patchOf 83 = .ok (.iload_n 3, 1) := by decide +kernel
theorem dX11_patchOf_84 : decode cX11_patchOf 84 = .ok (.iload 7, 2) := by decide +kernel
theorem dX11_patchOf_86 : decode cX11_patchOf 86 = .ok (.invokestatic 259, 3) := by decide +kernel
theorem dX11_patchOf_89 : decode cX11_patchOf 89 = .ok (.ifCond .eq 37, 3) := by decide +kernel
theorem dX11_patchOf_92 : decode cX11_patchOf 92 = .ok (.iload 6, 2) := by decide +kernel
theorem dX11_patchOf_94 : decode cX11_patchOf 94 = .ok (.iconst 4, 1) := by decide +kernel
theorem dX11_patchOf_95 : decode cX11_patchOf 95 = .ok (.irem, 1) := by decide +kernel
theorem dX11_patchOf_96 : decode cX11_patchOf 96 = .ok (.iload 7, 2) := by decide +kernel
theorem dX11_patchOf_98 : decode cX11_patchOf 98 = .ok (.iconst 4, 1) := by decide +kernel
theorem dX11_patchOf_99 : decode cX11_patchOf 99 = .ok (.irem, 1) := by decide +kernel
theorem dX11_patchOf_100 : decode cX11_patchOf 100 = .ok (.invokestatic 252, 3) := by decide +kernel
theorem dX11_patchOf_103 : decode cX11_patchOf 103 = .ok (.iload 6, 2) := by decide +kernel
theorem dX11_patchOf_105 : decode cX11_patchOf 105 = .ok (.iconst 4, 1) := by decide +kernel
theorem dX11_patchOf_106 : decode cX11_patchOf 106 = .ok (.idiv, 1) := by decide +kernel
theorem dX11_patchOf_107 : decode cX11_patchOf 107 = .ok (.iload 7, 2) := by decide +kernel
theorem dX11_patchOf_109 : decode cX11_patchOf 109 = .ok (.iconst 4, 1) := by decide +kernel
theorem dX11_patchOf_110 : decode cX11_patchOf 110 = .ok (.idiv, 1) := by decide +kernel
theorem dX11_patchOf_111 : decode cX11_patchOf 111 = .ok (.invokestatic 252, 3) := by decide +kernel
theorem dX11_patchOf_114 : decode cX11_patchOf 114 = .ok (.iadd, 1) := by decide +kernel
theorem dX11_patchOf_115 : decode cX11_patchOf 115 = .ok (.iconst 1, 1) := by decide +kernel
theorem dX11_patchOf_116 : decode cX11_patchOf 116 = .ok (.if_icmp .ne 10, 3) := by decide +kernel
theorem dX11_patchOf_119 : decode cX11_patchOf 119 = .ok (.iload_n 3, 1) := by decide +kernel
theorem dX11_patchOf_120 : decode cX11_patchOf 120 = .ok (.iconst 1, 1) := by decide +kernel
theorem dX11_patchOf_121 : decode cX11_patchOf 121 = .ok (.iload 6, 2) := by decide +kernel
theorem dX11_patchOf_123 : decode cX11_patchOf 123 = .ok (.ishl, 1) := by decide +kernel
theorem dX11_patchOf_124 : decode cX11_patchOf 124 = .ok (.ior, 1) := by decide +kernel
theorem dX11_patchOf_125 : decode cX11_patchOf 125 = .ok (.istore_n 3, 1) := by decide +kernel
theorem dX11_patchOf_126 : decode cX11_patchOf 126 = .ok (.iinc 7 1, 3) := by decide +kernel
theorem dX11_patchOf_129 : decode cX11_patchOf 129 = .ok (.goto (-53), 3) := by decide +kernel
theorem dX11_patchOf_132 : decode cX11_patchOf 132 = .ok (.iinc 6 1, 3) := by decide +kernel
theorem dX11_patchOf_135 : decode cX11_patchOf 135 = .ok (.goto (-102), 3) := by decide +kernel
theorem dX11_patchOf_138 : decode cX11_patchOf 138 = .ok (.iinc 5 1, 3) := by decide +kernel
theorem dX11_patchOf_141 : decode cX11_patchOf 141 = .ok (.goto (-118), 3) := by decide +kernel
theorem dX11_patchOf_144 : decode cX11_patchOf 144 = .ok (.iload_n 3, 1) := by decide +kernel
theorem dX11_patchOf_145 : decode cX11_patchOf 145 = .ok (.ireturn, 1) := by decide +kernel
theorem dX11_patch_0 : decode cX11_patch 0 = .ok (.aload_n 0, 1) := by decide +kernel
theorem dX11_patch_1 : decode cX11_patch 1 = .ok (.iconst 0, 1) := by decide +kernel
theorem dX11_patch_2 : decode cX11_patch 2 = .ok (.putfield 85, 3) := by decide +kernel
theorem dX11_patch_5 : decode cX11_patch 5 = .ok (.aload_n 0, 1) := by decide +kernel
theorem dX11_patch_6 : decode cX11_patch 6 = .ok (.aload_n 0, 1) := by decide +kernel
theorem dX11_patch_7 : decode cX11_patch 7 = .ok (.iload_n 1, 1) := by decide +kernel
theorem dX11_patch_8 : decode cX11_patch 8 = .ok (.invokevirtual 315, 3) := by decide +kernel
theorem dX11_patch_11 : decode cX11_patch 11 = .ok (.ifCond .ne 7, 3) := by decide +kernel
theorem dX11_patch_14 : decode cX11_patch 14 = .ok (.iconst 1, 1) := by decide +kernel
theorem dX11_patch_15 : decode cX11_patch 15 = .ok (.goto 4, 3) := by decide +kernel
theorem dX11_patch_18 : decode cX11_patch 18 = .ok (.iconst 0, 1) := by decide +kernel
theorem dX11_patch_19 : decode cX11_patch 19 = .ok (.iconst 1, 1) := by decide +kernel
theorem dX11_patch_20 : decode cX11_patch 20 = .ok (.iconst 1, 1) := by decide +kernel
theorem dX11_patch_21 : decode cX11_patch 21 = .ok (.invokevirtual 158, 3) := by decide +kernel
theorem dX11_patch_24 : decode cX11_patch 24 = .ok (.ifCond .ne 26, 3) := by decide +kernel
theorem dX11_patch_27 : decode cX11_patch 27 = .ok (.aload_n 0, 1) := by decide +kernel
theorem dX11_patch_28 : decode cX11_patch 28 = .ok (.iload_n 2, 1) := by decide +kernel
theorem dX11_patch_29 : decode cX11_patch 29 = .ok (.iconst 0, 1) := by decide +kernel
theorem dX11_patch_30 : decode cX11_patch 30 = .ok (.iconst 1, 1) := by decide +kernel
theorem dX11_patch_31 : decode cX11_patch 31 = .ok (.invokestatic 119, 3) := by decide +kernel
theorem dX11_patch_34 : decode cX11_patch 34 = .ok (.ifCond .ne 7, 3) := by decide +kernel
theorem dX11_patch_37 : decode cX11_patch 37 = .ok (.iconst 1, 1) := by decide +kernel
theorem dX11_patch_38 : decode cX11_patch 38 = .ok (.goto 4, 3) := by decide +kernel
theorem dX11_patch_41 : decode cX11_patch 41 = .ok (.iconst 0, 1) := by decide +kernel
theorem dX11_patch_42 : decode cX11_patch 42 = .ok (.iconst 2, 1) := by decide +kernel
theorem dX11_patch_43 : decode cX11_patch 43 = .ok (.iconst 2, 1) := by decide +kernel
theorem dX11_patch_44 : decode cX11_patch 44 = .ok (.invokevirtual 158, 3) := by decide +kernel
theorem dX11_patch_47 : decode cX11_patch 47 = .ok (.ifCond .eq 5, 3) := by decide +kernel
theorem dX11_patch_50 : decode cX11_patch 50 = .ok (.iconst 0, 1) := by decide +kernel
theorem dX11_patch_51 : decode cX11_patch 51 = .ok (.ireturn, 1) := by decide +kernel
theorem dX11_patch_52 : decode cX11_patch 52 = .ok (.iconst 0, 1) := by decide +kernel
theorem dX11_patch_53 : decode cX11_patch 53 = .ok (.istore_n 3, 1) := by decide +kernel
theorem dX11_patch_54 : decode cX11_patch 54 = .ok (.iconst 0, 1) := by decide +kernel
theorem dX11_patch_55 : decode cX11_patch 55 = .ok (.istore 4, 2) := by decide +kernel
theorem dX11_patch_57 : decode cX11_patch 57 = .ok (.iconst 0, 1) := by decide +kernel
theorem dX11_patch_58 : decode cX11_patch 58 = .ok (.istore 5, 2) := by decide +kernel
theorem dX11_patch_60 : decode cX11_patch 60 = .ok (.iload 5, 2) := by decide +kernel
theorem dX11_patch_62 : decode cX11_patch 62 = .ok (.bipush 16, 2) := by decide +kernel
theorem dX11_patch_64 : decode cX11_patch 64 = .ok (.if_icmp .ge 104, 3) := by decide +kernel
theorem dX11_patch_67 : decode cX11_patch 67 = .ok (.aload_n 0, 1) := by decide +kernel
theorem dX11_patch_68 : decode cX11_patch 68 = .ok (.getfield 67, 3) := by decide +kernel
theorem dX11_patch_71 : decode cX11_patch 71 = .ok (.bipush 16, 2) := by decide +kernel
theorem dX11_patch_73 : decode cX11_patch 73 = .ok (.iload_n 1, 1) := by decide +kernel
theorem dX11_patch_74 : decode cX11_patch 74 = .ok (.imul, 1) := by decide +kernel
theorem dX11_patch_75 : decode cX11_patch 75 = .ok (.iload 5, 2) := by decide +kernel
theorem dX11_patch_77 : decode cX11_patch 77 = .ok (.iadd, 1) := by decide +kernel
theorem dX11_patch_78 : decode cX11_patch 78 = .ok (.iconst 0, 1) := by decide +kernel
theorem dX11_patch_79 : decode cX11_patch 79 = .ok (.invokestatic 244, 3) := by decide +kernel
theorem dX11_patch_82 : decode cX11_patch 82 = .ok (.istore 6, 2) := by decide +kernel
theorem dX11_patch_84 : decode cX11_patch 84 = .ok (.iconst 0, 1) := by decide +kernel
theorem dX11_patch_85 : decode cX11_patch 85 = .ok (.istore 7, 2) := by decide +kernel
theorem dX11_patch_87 : decode cX11_patch 87 = .ok (.iload 6, 2) := by decide +kernel
theorem dX11_patch_89 : decode cX11_patch 89 = .ok (.ifCond .ne 7, 3) := by decide +kernel
theorem dX11_patch_92 : decode cX11_patch 92 = .ok (.iconst 0, 1) := by decide +kernel
theorem dX11_patch_93 : decode cX11_patch 93 = .ok (.goto 10, 3) := by decide +kernel
theorem dX11_patch_96 : decode cX11_patch 96 = .ok (.aload_n 0, 1) := by decide +kernel
theorem dX11_patch_97 : decode cX11_patch 97 = .ok (.iload_n 1, 1) := by decide +kernel
theorem dX11_patch_98 : decode cX11_patch 98 = .ok (.iload 5, 2) := by decide +kernel
theorem dX11_patch_100 : decode cX11_patch 100 = .ok (.invokevirtual 354, 3) := by decide +kernel
theorem dX11_patch_103 : decode cX11_patch 103 = .ok (.istore 8, 2) := by decide +kernel
theorem dX11_patch_105 : decode cX11_patch 105 = .ok (.iconst 0, 1) := by decide +kernel
theorem dX11_patch_106 : decode cX11_patch 106 = .ok (.istore 9, 2) := by decide +kernel
theorem dX11_patch_108 : decode cX11_patch 108 = .ok (.iload 9, 2) := by decide +kernel
theorem dX11_patch_110 : decode cX11_patch 110 = .ok (.bipush 16, 2) := by decide +kernel
theorem dX11_patch_112 : decode cX11_patch 112 = .ok (.if_icmp .ge 21, 3) := by decide +kernel
theorem dX11_patch_115 : decode cX11_patch 115 = .ok (.iload 7, 2) := by decide +kernel
theorem dX11_patch_117 : decode cX11_patch 117 = .ok (.iload 8, 2) := by decide +kernel
theorem dX11_patch_119 : decode cX11_patch 119 = .ok (.iload 9, 2) := by decide +kernel
theorem dX11_patch_121 : decode cX11_patch 121 = .ok (.ishr, 1) := by decide +kernel
theorem dX11_patch_122 : decode cX11_patch 122 = .ok (.iconst 1, 1) := by decide +kernel
theorem dX11_patch_123 : decode cX11_patch 123 = .ok (.iand, 1) := by decide +kernel
theorem dX11_patch_124 : decode cX11_patch 124 = .ok (.iadd, 1) := by decide +kernel
theorem dX11_patch_125 : decode cX11_patch 125 = .ok (.istore 7, 2) := by decide +kernel
theorem dX11_patch_127 : decode cX11_patch 127 = .ok (.iinc 9 1, 3) := by decide +kernel
theorem dX11_patch_130 : decode cX11_patch 130 = .ok (.goto (-22), 3) := by decide +kernel
theorem dX11_patch_133 : decode cX11_patch 133 = .ok (.iload 7, 2) := by decide +kernel
theorem dX11_patch_135 : decode cX11_patch 135 = .ok (.iload_n 3, 1) := by decide +kernel
theorem dX11_patch_136 : decode cX11_patch 136 = .ok (.if_icmp .lt 26, 3) := by decide +kernel
theorem dX11_patch_139 : decode cX11_patch 139 = .ok (.iload 7, 2) := by decide +kernel
theorem dX11_patch_141 : decode cX11_patch 141 = .ok (.iload_n 3, 1) := by decide +kernel
theorem dX11_patch_142 : decode cX11_patch 142 = .ok (.if_icmp .ne 13, 3) := by decide +kernel
theorem dX11_patch_145 : decode cX11_patch 145 = .ok (.iload 6, 2) := by decide +kernel
theorem dX11_patch_147 : decode cX11_patch 147 = .ok (.iload 4, 2) := by decide +kernel
theorem dX11_patch_149 : decode cX11_patch 149 = .ok (.if_icmp .gt 6, 3) := by decide +kernel
theorem dX11_patch_152 : decode cX11_patch 152 = .ok (.goto 10, 3) := by decide +kernel
theorem dX11_patch_155 : decode cX11_patch 155 = .ok (.iload 7, 2) := by decide +kernel
theorem dX11_patch_157 : decode cX11_patch 157 = .ok (.istore_n 3, 1) := by decide +kernel
theorem dX11_patch_158 : decode cX11_patch 158 = .ok (.iload 6, 2) := by decide +kernel
theorem dX11_patch_160 : decode cX11_patch 160 = .ok (.istore 4, 2) := by decide +kernel
theorem dX11_patch_162 : decode cX11_patch 162 = .ok (.iinc 5 1, 3) := by decide +kernel
theorem dX11_patch_165 : decode cX11_patch 165 = .ok (.goto (-105), 3) := by decide +kernel
theorem dX11_patch_168 : decode cX11_patch 168 = .ok (.iload_n 2, 1) := by decide +kernel
theorem dX11_patch_169 : decode cX11_patch 169 = .ok (.ifCond .ne 7, 3) := by decide +kernel
theorem dX11_patch_172 : decode cX11_patch 172 = .ok (.iload_n 3, 1) := by decide +kernel
theorem dX11_patch_173 : decode cX11_patch 173 = .ok (.goto 5, 3) := by decide +kernel
theorem dX11_patch_176 : decode cX11_patch 176 = .ok (.iload 4, 2) := by decide +kernel
theorem dX11_patch_178 : decode cX11_patch 178 = .ok (.ireturn, 1) := by decide +kernel
theorem dX11_isToldBy_0 : decode cX11_isToldBy 0 = .ok (.iconst 0, 1) := by decide +kernel
theorem dX11_isToldBy_1 : decode cX11_isToldBy 1 = .ok (.istore_n 3, 1) := by decide +kernel
theorem dX11_isToldBy_2 : decode cX11_isToldBy 2 = .ok (.iload_n 3, 1) := by decide +kernel
theorem dX11_isToldBy_3 : decode cX11_isToldBy 3 = .ok (.aload_n 0, 1) := by decide +kernel
theorem dX11_isToldBy_4 : decode cX11_isToldBy 4 = .ok (.getfield 178, 3) := by decide +kernel
theorem dX11_isToldBy_7 : decode cX11_isToldBy 7 = .ok (.if_icmp .ge 74, 3) := by decide +kernel
theorem dX11_isToldBy_10 : decode cX11_isToldBy 10 = .ok (.aload_n 0, 1) := by decide +kernel
theorem dX11_isToldBy_11 : decode cX11_isToldBy 11 = .ok (.iload_n 1, 1) := by decide +kernel
theorem dX11_isToldBy_12 : decode cX11_isToldBy 12 = .ok (.aload_n 0, 1) := by decide +kernel
theorem dX11_isToldBy_13 : decode cX11_isToldBy 13 = .ok (.getfield 52, 3) := by decide +kernel
theorem dX11_isToldBy_16 : decode cX11_isToldBy 16 = .ok (.iload_n 3, 1) := by decide +kernel
theorem dX11_isToldBy_17 : decode cX11_isToldBy 17 = .ok (.aaload, 1) := by decide +kernel
theorem dX11_isToldBy_18 : decode cX11_isToldBy 18 = .ok (.iconst 0, 1) := by decide +kernel
theorem dX11_isToldBy_19 : decode cX11_isToldBy 19 = .ok (.iaload, 1) := by decide +kernel
theorem dX11_isToldBy_20 : decode cX11_isToldBy 20 = .ok (.aload_n 0, 1) := by decide +kernel
theorem dX11_isToldBy_21 : decode cX11_isToldBy 21 = .ok (.getfield 52, 3) := by decide +kernel
theorem dX11_isToldBy_24 : decode cX11_isToldBy 24 = .ok (.iload_n 3, 1) := by decide +kernel
theorem dX11_isToldBy_25 : decode cX11_isToldBy 25 = .ok (.aaload, 1) := by decide +kernel
theorem dX11_isToldBy_26 : decode cX11_isToldBy 26 = .ok (.iconst 1, 1) := by decide +kernel
theorem dX11_isToldBy_27 : decode cX11_isToldBy 27 = .ok (.iaload, 1) := by decide +kernel
theorem dX11_isToldBy_28 : decode cX11_isToldBy 28 = .ok (.invokevirtual 237, 3) := by decide +kernel
theorem dX11_isToldBy_31 : decode cX11_isToldBy 31 = .ok (.ifCond .eq 42, 3) := by decide +kernel
theorem dX11_isToldBy_34 : decode cX11_isToldBy 34 = .ok (.aload_n 0, 1) := by decide +kernel
theorem dX11_isToldBy_35 : decode cX11_isToldBy 35 = .ok (.getfield 67, 3) := by decide +kernel
theorem dX11_isToldBy_38 : decode cX11_isToldBy 38 = .ok (.iload_n 1, 1) := by decide +kernel
theorem dX11_isToldBy_39 : decode cX11_isToldBy 39 = .ok (.aload_n 0, 1) := by decide +kernel
theorem dX11_isToldBy_40 : decode cX11_isToldBy 40 = .ok (.getfield 52, 3) := by decide +kernel
theorem dX11_isToldBy_43 : decode cX11_isToldBy 43 = .ok (.iload_n 3, 1) := by decide +kernel
theorem dX11_isToldBy_44 : decode cX11_isToldBy 44 = .ok (.aaload, 1) := by decide +kernel
theorem dX11_isToldBy_45 : decode cX11_isToldBy 45 = .ok (.iconst 0, 1) := by decide +kernel
theorem dX11_isToldBy_46 : decode cX11_isToldBy 46 = .ok (.iaload, 1) := by decide +kernel
theorem dX11_isToldBy_47 : decode cX11_isToldBy 47 = .ok (.aload_n 0, 1) := by decide +kernel
theorem dX11_isToldBy_48 : decode cX11_isToldBy 48 = .ok (.getfield 52, 3) := by decide +kernel
theorem dX11_isToldBy_51 : decode cX11_isToldBy 51 = .ok (.iload_n 3, 1) := by decide +kernel
theorem dX11_isToldBy_52 : decode cX11_isToldBy 52 = .ok (.aaload, 1) := by decide +kernel
theorem dX11_isToldBy_53 : decode cX11_isToldBy 53 = .ok (.iconst 1, 1) := by decide +kernel
theorem dX11_isToldBy_54 : decode cX11_isToldBy 54 = .ok (.iaload, 1) := by decide +kernel
theorem dX11_isToldBy_55 : decode cX11_isToldBy 55 = .ok (.invokestatic 321, 3) := by decide +kernel
theorem dX11_isToldBy_58 : decode cX11_isToldBy 58 = .ok (.iload_n 2, 1) := by decide +kernel
theorem dX11_isToldBy_59 : decode cX11_isToldBy 59 = .ok (.invokestatic 244, 3) := by decide +kernel
theorem dX11_isToldBy_62 : decode cX11_isToldBy 62 = .ok (.aload_n 0, 1) := by decide +kernel
theorem dX11_isToldBy_63 : decode cX11_isToldBy 63 = .ok (.getfield 52, 3) := by decide +kernel
theorem dX11_isToldBy_66 : decode cX11_isToldBy 66 = .ok (.iload_n 3, 1) := by decide +kernel
theorem dX11_isToldBy_67 : decode cX11_isToldBy 67 = .ok (.aaload, 1) := by decide +kernel
theorem dX11_isToldBy_68 : decode cX11_isToldBy 68 = .ok (.iconst 2, 1) := by decide +kernel
theorem dX11_isToldBy_69 : decode cX11_isToldBy 69 = .ok (.iaload, 1) := by decide +kernel
theorem dX11_isToldBy_70 : decode cX11_isToldBy 70 = .ok (.if_icmp .eq 5, 3) := by decide +kernel
theorem dX11_isToldBy_73 : decode cX11_isToldBy 73 = .ok (.iconst 0, 1) := by decide +kernel
theorem dX11_isToldBy_74 : decode cX11_isToldBy 74 = .ok (.ireturn, 1) := by decide +kernel
theorem dX11_isToldBy_75 : decode cX11_isToldBy 75 = .ok (.iinc 3 1, 3) := by decide +kernel
theorem dX11_isToldBy_78 : decode cX11_isToldBy 78 = .ok (.goto (-76), 3) := by decide +kernel
theorem dX11_isToldBy_81 : decode cX11_isToldBy 81 = .ok (.iconst 1, 1) := by decide +kernel
theorem dX11_isToldBy_82 : decode cX11_isToldBy 82 = .ok (.ireturn, 1) := by decide +kernel
theorem dX11_depthsOf_0 : decode cX11_depthsOf 0 = .ok (.iconst 0, 1) := by decide +kernel
theorem dX11_depthsOf_1 : decode cX11_depthsOf 1 = .ok (.istore_n 2, 1) := by decide +kernel
theorem dX11_depthsOf_2 : decode cX11_depthsOf 2 = .ok (.iconst 0, 1) := by decide +kernel
theorem dX11_depthsOf_3 : decode cX11_depthsOf 3 = .ok (.istore_n 3, 1) := by decide +kernel
theorem dX11_depthsOf_4 : decode cX11_depthsOf 4 = .ok (.iload_n 3, 1) := by decide +kernel
theorem dX11_depthsOf_5 : decode cX11_depthsOf 5 = .ok (.bipush 30, 2) := by decide +kernel
theorem dX11_depthsOf_7 : decode cX11_depthsOf 7 = .ok (.if_icmp .gt 28, 3) := by decide +kernel
theorem dX11_depthsOf_10 : decode cX11_depthsOf 10 = .ok (.iload_n 2, 1) := by decide +kernel
theorem dX11_depthsOf_11 : decode cX11_depthsOf 11 = .ok (.aload_n 0, 1) := by decide +kernel
theorem dX11_depthsOf_12 : decode cX11_depthsOf 12 = .ok (.iload_n 1, 1) := by decide +kernel
theorem dX11_depthsOf_13 : decode cX11_depthsOf 13 = .ok (.iload_n 3, 1) := by decide +kernel
theorem dX11_depthsOf_14 : decode cX11_depthsOf 14 = .ok (.invokevirtual 357, 3) := by decide +kernel
theorem dX11_depthsOf_17 : decode cX11_depthsOf 17 = .ok (.ifCond .eq 9, 3) := by decide +kernel
theorem dX11_depthsOf_20 : decode cX11_depthsOf 20 = .ok (.iconst 1, 1) := by decide +kernel
theorem dX11_depthsOf_21 : decode cX11_depthsOf 21 = .ok (.iload_n 3, 1) := by decide +kernel
theorem dX11_depthsOf_22 : decode cX11_depthsOf 22 = .ok (.ishl, 1) := by decide +kernel
theorem dX11_depthsOf_23 : decode cX11_depthsOf 23 = .ok (.goto 4, 3) := by decide +kernel
theorem dX11_depthsOf_26 : decode cX11_depthsOf 26 = .ok (.iconst 0, 1) := by decide +kernel
theorem dX11_depthsOf_27 : decode cX11_depthsOf 27 = .ok (.ior, 1) := by decide +kernel
theorem dX11_depthsOf_28 : decode cX11_depthsOf 28 = .ok (.istore_n 2, 1) := by decide +kernel
theorem dX11_depthsOf_29 : decode cX11_depthsOf 29 = .ok (.iinc 3 1, 3) := by decide +kernel
theorem dX11_depthsOf_32 : decode cX11_depthsOf 32 = .ok (.goto (-28), 3) := by decide +kernel
theorem dX11_depthsOf_35 : decode cX11_depthsOf 35 = .ok (.iload_n 2, 1) := by decide +kernel
theorem dX11_depthsOf_36 : decode cX11_depthsOf 36 = .ok (.ireturn, 1) := by decide +kernel
theorem dX11_tells_0 : decode cX11_tells 0 = .ok (.aload_n 0, 1) := by decide +kernel
theorem dX11_tells_1 : decode cX11_tells 1 = .ok (.iconst 0, 1) := by decide +kernel
theorem dX11_tells_2 : decode cX11_tells 2 = .ok (.putfield 85, 3) := by decide +kernel
theorem dX11_tells_5 : decode cX11_tells 5 = .ok (.aload_n 0, 1) := by decide +kernel
theorem dX11_tells_6 : decode cX11_tells 6 = .ok (.aload_n 0, 1) := by decide +kernel
theorem dX11_tells_7 : decode cX11_tells 7 = .ok (.iload_n 1, 1) := by decide +kernel
theorem dX11_tells_8 : decode cX11_tells 8 = .ok (.invokevirtual 315, 3) := by decide +kernel
theorem dX11_tells_11 : decode cX11_tells 11 = .ok (.ifCond .ne 7, 3) := by decide +kernel
theorem dX11_tells_14 : decode cX11_tells 14 = .ok (.iconst 1, 1) := by decide +kernel
theorem dX11_tells_15 : decode cX11_tells 15 = .ok (.goto 4, 3) := by decide +kernel
theorem dX11_tells_18 : decode cX11_tells 18 = .ok (.iconst 0, 1) := by decide +kernel
theorem dX11_tells_19 : decode cX11_tells 19 = .ok (.iconst 1, 1) := by decide +kernel
theorem dX11_tells_20 : decode cX11_tells 20 = .ok (.iconst 1, 1) := by decide +kernel
theorem dX11_tells_21 : decode cX11_tells 21 = .ok (.invokevirtual 158, 3) := by decide +kernel
theorem dX11_tells_24 : decode cX11_tells 24 = .ok (.ifCond .eq 5, 3) := by decide +kernel
theorem dX11_tells_27 : decode cX11_tells 27 = .ok (.iconst 0, 1) := by decide +kernel
theorem dX11_tells_28 : decode cX11_tells 28 = .ok (.ireturn, 1) := by decide +kernel
theorem dX11_tells_29 : decode cX11_tells 29 = .ok (.aload_n 0, 1) := by decide +kernel
theorem dX11_tells_30 : decode cX11_tells 30 = .ok (.iload_n 1, 1) := by decide +kernel
theorem dX11_tells_31 : decode cX11_tells 31 = .ok (.invokevirtual 360, 3) := by decide +kernel
theorem dX11_tells_34 : decode cX11_tells 34 = .ok (.ireturn, 1) := by decide +kernel
theorem dX11_isInBook_0 : decode cX11_isInBook 0 = .ok (.iconst 0, 1) := by decide +kernel
theorem dX11_isInBook_1 : decode cX11_isInBook 1 = .ok (.istore_n 2, 1) := by decide +kernel
theorem dX11_isInBook_2 : decode cX11_isInBook 2 = .ok (.iload_n 2, 1) := by decide +kernel
theorem dX11_isInBook_3 : decode cX11_isInBook 3 = .ok (.aload_n 0, 1) := by decide +kernel
theorem dX11_isInBook_4 : decode cX11_isInBook 4 = .ok (.getfield 178, 3) := by decide +kernel
theorem dX11_isInBook_7 : decode cX11_isInBook 7 = .ok (.if_icmp .ge 34, 3) := by decide +kernel
theorem dX11_isInBook_10 : decode cX11_isInBook 10 = .ok (.iconst 4, 1) := by decide +kernel
theorem dX11_isInBook_11 : decode cX11_isInBook 11 = .ok (.aload_n 0, 1) := by decide +kernel
theorem dX11_isInBook_12 : decode cX11_isInBook 12 = .ok (.getfield 52, 3) := by decide +kernel
theorem dX11_isInBook_15 : decode cX11_isInBook 15 = .ok (.iload_n 2, 1) := by decide +kernel
theorem dX11_isInBook_16 : decode cX11_isInBook 16 = .ok (.aaload, 1) := by decide +kernel
theorem dX11_isInBook_17 : decode cX11_isInBook 17 = .ok (.iconst 1, 1) := by decide +kernel
theorem dX11_isInBook_18 : decode cX11_isInBook 18 = .ok (.iaload, 1) := by decide +kernel
theorem dX11_isInBook_19 : decode cX11_isInBook 19 = .ok (.imul, 1) := by decide +kernel
theorem dX11_isInBook_20 : decode cX11_isInBook 20 = .ok (.aload_n 0, 1) := by decide +kernel
theorem dX11_isInBook_21 : decode cX11_isInBook 21 = .ok (.getfield 52, 3) := by decide +kernel
theorem dX11_isInBook_24 : decode cX11_isInBook 24 = .ok (.iload_n 2, 1) := by decide +kernel
theorem dX11_isInBook_25 : decode cX11_isInBook 25 = .ok (.aaload, 1) := by decide +kernel
theorem dX11_isInBook_26 : decode cX11_isInBook 26 = .ok (.iconst 0, 1) := by decide +kernel
theorem dX11_isInBook_27 : decode cX11_isInBook 27 = .ok (.iaload, 1) := by decide +kernel
theorem dX11_isInBook_28 : decode cX11_isInBook 28 = .ok (.iadd, 1) := by decide +kernel
theorem dX11_isInBook_29 : decode cX11_isInBook 29 = .ok (.iload_n 1, 1) := by decide +kernel
theorem dX11_isInBook_30 : decode cX11_isInBook 30 = .ok (.if_icmp .ne 5, 3) := by decide +kernel
theorem dX11_isInBook_33 : decode cX11_isInBook 33 = .ok (.iconst 1, 1) := by decide +kernel
theorem dX11_isInBook_34 : decode cX11_isInBook 34 = .ok (.ireturn, 1) := by decide +kernel
theorem dX11_isInBook_35 : decode cX11_isInBook 35 = .ok (.iinc 2 1, 3) := by decide +kernel
theorem dX11_isInBook_38 : decode cX11_isInBook 38 = .ok (.goto (-36), 3) := by decide +kernel
theorem dX11_isInBook_41 : decode cX11_isInBook 41 = .ok (.iconst 0, 1) := by decide +kernel
theorem dX11_isInBook_42 : decode cX11_isInBook 42 = .ok (.ireturn, 1) := by decide +kernel
theorem dX11_worstOf_0 : decode cX11_worstOf 0 = .ok (.iconst 0, 1) := by decide +kernel
theorem dX11_worstOf_1 : decode cX11_worstOf 1 = .ok (.istore 4, 2) := by decide +kernel
theorem dX11_worstOf_3 : decode cX11_worstOf 3 = .ok (.iconst 0, 1) := by decide +kernel
theorem dX11_worstOf_4 : decode cX11_worstOf 4 = .ok (.istore 5, 2) := by decide +kernel
theorem dX11_worstOf_6 : decode cX11_worstOf 6 = .ok (.iload 5, 2) := by decide +kernel
theorem dX11_worstOf_8 : decode cX11_worstOf 8 = .ok (.bipush 30, 2) := by decide +kernel
theorem dX11_worstOf_10 : decode cX11_worstOf 10 = .ok (.if_icmp .gt 98, 3) := by decide +kernel
theorem dX11_worstOf_13 : decode cX11_worstOf 13 = .ok (.iconst 0, 1) := by decide +kernel
theorem dX11_worstOf_14 : decode cX11_worstOf 14 = .ok (.istore 6, 2) := by decide +kernel
theorem dX11_worstOf_16 : decode cX11_worstOf 16 = .ok (.iconst 0, 1) := by decide +kernel
theorem dX11_worstOf_17 : decode cX11_worstOf 17 = .ok (.istore 7, 2) := by decide +kernel
theorem dX11_worstOf_19 : decode cX11_worstOf 19 = .ok (.iload 7, 2) := by decide +kernel
theorem dX11_worstOf_21 : decode cX11_worstOf 21 = .ok (.bipush 30, 2) := by decide +kernel
theorem dX11_worstOf_23 : decode cX11_worstOf 23 = .ok (.if_icmp .gt 70, 3) := by decide +kernel
theorem dX11_worstOf_26 : decode cX11_worstOf 26 = .ok (.iload_n 3, 1) := by decide +kernel
theorem dX11_worstOf_27 : decode cX11_worstOf 27 = .ok (.iload 5, 2) := by decide +kernel
theorem dX11_worstOf_29 : decode cX11_worstOf 29 = .ok (.invokestatic 259, 3) := by decide +kernel
theorem dX11_worstOf_32 : decode cX11_worstOf 32 = .ok (.ifCond .eq 61, 3) := by decide +kernel
theorem dX11_worstOf_35 : decode cX11_worstOf 35 = .ok (.iload 6, 2) := by decide +kernel
theorem dX11_worstOf_37 : decode cX11_worstOf 37 = .ok (.iload_n 3, 1) := by decide +kernel
theorem dX11_worstOf_38 : decode cX11_worstOf 38 = .ok (.iload 7, 2) := by decide +kernel
theorem dX11_worstOf_40 : decode cX11_worstOf 40 = .ok (.invokestatic 259, 3) := by decide +kernel
theorem dX11_worstOf_43 : decode cX11_worstOf 43 = .ok (.ifCond .eq 40, 3) := by decide +kernel
theorem dX11_worstOf_46 : decode cX11_worstOf 46 = .ok (.aload_n 0, 1) := by decide +kernel
theorem dX11_worstOf_47 : decode cX11_worstOf 47 = .ok (.getfield 67, 3) := by decide +kernel
theorem dX11_worstOf_50 : decode cX11_worstOf 50 = .ok (.bipush 16, 2) := by decide +kernel
theorem dX11_worstOf_52 : decode cX11_worstOf 52 = .ok (.iload_n 1, 1) := by decide +kernel
theorem dX11_worstOf_53 : decode cX11_worstOf 53 = .ok (.imul, 1) := by decide +kernel
theorem dX11_worstOf_54 : decode cX11_worstOf 54 = .ok (.iload_n 2, 1) := by decide +kernel
theorem dX11_worstOf_55 : decode cX11_worstOf 55 = .ok (.iadd, 1) := by decide +kernel
theorem dX11_worstOf_56 : decode cX11_worstOf 56 = .ok (.iload 7, 2) := by decide +kernel
theorem dX11_worstOf_58 : decode cX11_worstOf 58 = .ok (.invokestatic 244, 3) := by decide +kernel
theorem dX11_worstOf_61 : decode cX11_worstOf 61 = .ok (.aload_n 0, 1) := by decide +kernel
theorem dX11_worstOf_62 : decode cX11_worstOf 62 = .ok (.getfield 67, 3) := by decide +kernel
theorem dX11_worstOf_65 : decode cX11_worstOf 65 = .ok (.bipush 16, 2) := by decide +kernel
theorem dX11_worstOf_67 : decode cX11_worstOf 67 = .ok (.iload_n 1, 1) := by decide +kernel
theorem dX11_worstOf_68 : decode cX11_worstOf 68 = .ok (.imul, 1) := by decide +kernel
theorem dX11_worstOf_69 : decode cX11_worstOf 69 = .ok (.iload_n 2, 1) := by decide +kernel
theorem dX11_worstOf_70 : decode cX11_worstOf 70 = .ok (.iadd, 1) := by decide +kernel
theorem dX11_worstOf_71 : decode cX11_worstOf 71 = .ok (.iload 5, 2) := by decide +kernel
theorem dX11_worstOf_73 : decode cX11_worstOf 73 = .ok (.invokestatic 244, 3) := by decide +kernel
theorem dX11_worstOf_76 : decode cX11_worstOf 76 = .ok (.if_icmp .ne 7, 3) := by decide +kernel
theorem dX11_worstOf_79 : decode cX11_worstOf 79 = .ok (.iconst 1, 1) := by decide +kernel
theorem dX11_worstOf_80 : decode cX11_worstOf 80 = .ok (.goto 4, 3) := by decide +kernel
theorem dX11_worstOf_83 : decode cX11_worstOf 83 = .ok (.iconst 0, 1) := by decide +kernel
theorem dX11_worstOf_84 : decode cX11_worstOf 84 = .ok (.iadd, 1) := by decide +kernel
theorem dX11_worstOf_85 : decode cX11_worstOf 85 = .ok (.istore 6, 2) := by decide +kernel
theorem dX11_worstOf_87 : decode cX11_worstOf 87 = .ok (.iinc 7 1, 3) := by decide +kernel
theorem dX11_worstOf_90 : decode cX11_worstOf 90 = .ok (.goto (-71), 3) := by decide +kernel
theorem dX11_worstOf_93 : decode cX11_worstOf 93 = .ok (.iload 4, 2) := by decide +kernel
theorem dX11_worstOf_95 : decode cX11_worstOf 95 = .ok (.iload 6, 2) := by decide +kernel
theorem dX11_worstOf_97 : decode cX11_worstOf 97 = .ok (.invokestatic 221, 3) := by decide +kernel
theorem dX11_worstOf_100 : decode cX11_worstOf 100 = .ok (.istore 4, 2) := by decide +kernel
theorem dX11_worstOf_102 : decode cX11_worstOf 102 = .ok (.iinc 5 1, 3) := by decide +kernel
theorem dX11_worstOf_105 : decode cX11_worstOf 105 = .ok (.goto (-99), 3) := by decide +kernel
theorem dX11_worstOf_108 : decode cX11_worstOf 108 = .ok (.iload 4, 2) := by decide +kernel
theorem dX11_worstOf_110 : decode cX11_worstOf 110 = .ok (.ireturn, 1) := by decide +kernel
theorem dX11_look_0 : decode cX11_look 0 = .ok (.aload_n 0, 1) := by decide +kernel
theorem dX11_look_1 : decode cX11_look 1 = .ok (.iconst 0, 1) := by decide +kernel
theorem dX11_look_2 : decode cX11_look 2 = .ok (.putfield 85, 3) := by decide +kernel
theorem dX11_look_5 : decode cX11_look 5 = .ok (.aload_n 0, 1) := by decide +kernel
theorem dX11_look_6 : decode cX11_look 6 = .ok (.aload_n 0, 1) := by decide +kernel
theorem dX11_look_7 : decode cX11_look 7 = .ok (.iload_n 1, 1) := by decide +kernel
theorem dX11_look_8 : decode cX11_look 8 = .ok (.invokevirtual 315, 3) := by decide +kernel
theorem dX11_look_11 : decode cX11_look 11 = .ok (.ifCond .ne 7, 3) := by decide +kernel
theorem dX11_look_14 : decode cX11_look 14 = .ok (.iconst 1, 1) := by decide +kernel
theorem dX11_look_15 : decode cX11_look 15 = .ok (.goto 4, 3) := by decide +kernel
theorem dX11_look_18 : decode cX11_look 18 = .ok (.iconst 0, 1) := by decide +kernel
theorem dX11_look_19 : decode cX11_look 19 = .ok (.iconst 1, 1) := by decide +kernel
theorem dX11_look_20 : decode cX11_look 20 = .ok (.iconst 1, 1) := by decide +kernel
theorem dX11_look_21 : decode cX11_look 21 = .ok (.invokevirtual 158, 3) := by decide +kernel
theorem dX11_look_24 : decode cX11_look 24 = .ok (.ifCond .ne 26, 3) := by decide +kernel
theorem dX11_look_27 : decode cX11_look 27 = .ok (.aload_n 0, 1) := by decide +kernel
theorem dX11_look_28 : decode cX11_look 28 = .ok (.iload_n 2, 1) := by decide +kernel
theorem dX11_look_29 : decode cX11_look 29 = .ok (.iconst 0, 1) := by decide +kernel
theorem dX11_look_30 : decode cX11_look 30 = .ok (.iconst 1, 1) := by decide +kernel
theorem dX11_look_31 : decode cX11_look 31 = .ok (.invokestatic 119, 3) := by decide +kernel
theorem dX11_look_34 : decode cX11_look 34 = .ok (.ifCond .ne 7, 3) := by decide +kernel
theorem dX11_look_37 : decode cX11_look 37 = .ok (.iconst 1, 1) := by decide +kernel
theorem dX11_look_38 : decode cX11_look 38 = .ok (.goto 4, 3) := by decide +kernel
theorem dX11_look_41 : decode cX11_look 41 = .ok (.iconst 0, 1) := by decide +kernel
theorem dX11_look_42 : decode cX11_look 42 = .ok (.iconst 2, 1) := by decide +kernel
theorem dX11_look_43 : decode cX11_look 43 = .ok (.iconst 2, 1) := by decide +kernel
theorem dX11_look_44 : decode cX11_look 44 = .ok (.invokevirtual 158, 3) := by decide +kernel
theorem dX11_look_47 : decode cX11_look 47 = .ok (.ifCond .eq 5, 3) := by decide +kernel
theorem dX11_look_50 : decode cX11_look 50 = .ok (.iconst 0, 1) := by decide +kernel
theorem dX11_look_51 : decode cX11_look 51 = .ok (.ireturn, 1) := by decide +kernel
theorem dX11_look_52 : decode cX11_look 52 = .ok (.iconst (-1), 1) := by decide +kernel
theorem dX11_look_53 : decode cX11_look 53 = .ok (.istore_n 3, 1) := by decide +kernel
theorem dX11_look_54 : decode cX11_look 54 = .ok (.iconst 0, 1) := by decide +kernel
theorem dX11_look_55 : decode cX11_look 55 = .ok (.istore 4, 2) := by decide +kernel
theorem dX11_look_57 : decode cX11_look 57 = .ok (.aload_n 0, 1) := by decide +kernel
theorem dX11_look_58 : decode cX11_look 58 = .ok (.iload_n 1, 1) := by decide +kernel
theorem dX11_look_59 : decode cX11_look 59 = .ok (.invokevirtual 360, 3) := by decide +kernel
theorem dX11_look_62 : decode cX11_look 62 = .ok (.istore 5, 2) := by decide +kernel
theorem dX11_look_64 : decode cX11_look 64 = .ok (.iconst 0, 1) := by decide +kernel
theorem dX11_look_65 : decode cX11_look 65 = .ok (.istore 6, 2) := by decide +kernel
theorem dX11_look_67 : decode cX11_look 67 = .ok (.iload 6, 2) := by decide +kernel
theorem dX11_look_69 : decode cX11_look 69 = .ok (.bipush 16, 2) := by decide +kernel
theorem dX11_look_71 : decode cX11_look 71 = .ok (.if_icmp .ge 64, 3) := by decide +kernel
theorem dX11_look_74 : decode cX11_look 74 = .ok (.aload_n 0, 1) := by decide +kernel
theorem dX11_look_75 : decode cX11_look 75 = .ok (.iload_n 1, 1) := by decide +kernel
theorem dX11_look_76 : decode cX11_look 76 = .ok (.iload 6, 2) := by decide +kernel
theorem dX11_look_78 : decode cX11_look 78 = .ok (.invokevirtual 248, 3) := by decide +kernel
theorem dX11_look_81 : decode cX11_look 81 = .ok (.ifCond .eq 48, 3) := by decide +kernel
theorem dX11_look_84 : decode cX11_look 84 = .ok (.aload_n 0, 1) := by decide +kernel
theorem dX11_look_85 : decode cX11_look 85 = .ok (.iload 6, 2) := by decide +kernel
theorem dX11_look_87 : decode cX11_look 87 = .ok (.invokevirtual 363, 3) := by decide +kernel
theorem dX11_look_90 : decode cX11_look 90 = .ok (.ifCond .eq 6, 3) := by decide +kernel
theorem dX11_look_93 : decode cX11_look 93 = .ok (.goto 36, 3) := by decide +kernel
theorem dX11_look_96 : decode cX11_look 96 = .ok (.aload_n 0, 1) := by decide +kernel
theorem dX11_look_97 : decode cX11_look 97 = .ok (.iload_n 1, 1) := by decide +kernel
theorem dX11_look_98 : decode cX11_look 98 = .ok (.iload 6, 2) := by decide +kernel
theorem dX11_look_100 : decode cX11_look 100 = .ok (.iload 5, 2) := by decide +kernel
theorem dX11_look_102 : decode cX11_look 102 = .ok (.invokevirtual 366, 3) := by decide +kernel
theorem dX11_look_105 : decode cX11_look 105 = .ok (.istore 7, 2) := by decide +kernel
theorem dX11_look_107 : decode cX11_look 107 = .ok (.iload_n 3, 1) := by decide +kernel
theorem dX11_look_108 : decode cX11_look 108 = .ok (.iconst (-1), 1) := by decide +kernel
theorem dX11_look_109 : decode cX11_look 109 = .ok (.if_icmp .eq 13, 3) := by decide +kernel
theorem dX11_look_112 : decode cX11_look 112 = .ok (.iload 7, 2) := by decide +kernel
theorem dX11_look_114 : decode cX11_look 114 = .ok (.iload 4, 2) := by decide +kernel
theorem dX11_look_116 : decode cX11_look 116 = .ok (.if_icmp .lt 6, 3) := by decide +kernel
theorem dX11_look_119 : decode cX11_look 119 = .ok (.goto 10, 3) := by decide +kernel
theorem dX11_look_122 : decode cX11_look 122 = .ok (.iload 6, 2) := by decide +kernel
theorem dX11_look_124 : decode cX11_look 124 = .ok (.istore_n 3, 1) := by decide +kernel
theorem dX11_look_125 : decode cX11_look 125 = .ok (.iload 7, 2) := by decide +kernel
theorem dX11_look_127 : decode cX11_look 127 = .ok (.istore 4, 2) := by decide +kernel
theorem dX11_look_129 : decode cX11_look 129 = .ok (.iinc 6 1, 3) := by decide +kernel
theorem dX11_look_132 : decode cX11_look 132 = .ok (.goto (-65), 3) := by decide +kernel
theorem dX11_look_135 : decode cX11_look 135 = .ok (.iload_n 2, 1) := by decide +kernel
theorem dX11_look_136 : decode cX11_look 136 = .ok (.ifCond .eq 8, 3) := by decide +kernel
theorem dX11_look_139 : decode cX11_look 139 = .ok (.iload_n 3, 1) := by decide +kernel
theorem dX11_look_140 : decode cX11_look 140 = .ok (.iconst (-1), 1) := by decide +kernel
theorem dX11_look_141 : decode cX11_look 141 = .ok (.if_icmp .ne 7, 3) := by decide +kernel
theorem dX11_look_144 : decode cX11_look 144 = .ok (.iload_n 3, 1) := by decide +kernel
theorem dX11_look_145 : decode cX11_look 145 = .ok (.goto 5, 3) := by decide +kernel
theorem dX11_look_148 : decode cX11_look 148 = .ok (.iload 4, 2) := by decide +kernel
theorem dX11_look_150 : decode cX11_look 150 = .ok (.ireturn, 1) := by decide +kernel
theorem dX11_circleOf_0 : decode cX11_circleOf 0 = .ok (.iconst 0, 1) := by decide +kernel
theorem dX11_circleOf_1 : decode cX11_circleOf 1 = .ok (.istore 4, 2) := by decide +kernel
theorem dX11_circleOf_3 : decode cX11_circleOf 3 = .ok (.iconst 0, 1) := by decide +kernel
theorem dX11_circleOf_4 : decode cX11_circleOf 4 = .ok (.istore 5, 2) := by decide +kernel
theorem dX11_circleOf_6 : decode cX11_circleOf 6 = .ok (.iload 5, 2) := by decide +kernel
theorem dX11_circleOf_8 : decode cX11_circleOf 8 = .ok (.bipush 16, 2) := by decide +kernel
theorem dX11_circleOf_10 : decode cX11_circleOf 10 = .ok (.if_icmp .ge 57, 3) := by decide +kernel
theorem dX11_circleOf_13 : decode cX11_circleOf 13 = .ok (.iload 4, 2) := by decide +kernel
theorem dX11_circleOf_15 : decode cX11_circleOf 15 = .ok (.aload_n 0, 1) := by decide +kernel
theorem dX11_circleOf_16 : decode cX11_circleOf 16 = .ok (.iload_n 1, 1) := by decide +kernel
theorem dX11_circleOf_17 : decode cX11_circleOf 17 = .ok (.iload 5, 2) := by decide +kernel
theorem dX11_circleOf_19 : decode cX11_circleOf 19 = .ok (.invokevirtual 248, 3) := by decide +kernel
theorem dX11_circleOf_22 : decode cX11_circleOf 22 = .ok (.ifCond .eq 35, 3) := by decide +kernel
theorem dX11_circleOf_25 : decode cX11_circleOf 25 = .ok (.iload 5, 2) := by decide +kernel
theorem dX11_circleOf_27 : decode cX11_circleOf 27 = .ok (.iconst 4, 1) := by decide +kernel
theorem dX11_circleOf_28 : decode cX11_circleOf 28 = .ok (.irem, 1) := by decide +kernel
theorem dX11_circleOf_29 : decode cX11_circleOf 29 = .ok (.iload_n 2, 1) := by decide +kernel
theorem dX11_circleOf_30 : decode cX11_circleOf 30 = .ok (.iconst 4, 1) := by decide +kernel
theorem dX11_circleOf_31 : decode cX11_circleOf 31 = .ok (.irem, 1) := by decide +kernel
theorem dX11_circleOf_32 : decode cX11_circleOf 32 = .ok (.invokestatic 252, 3) := by decide +kernel
theorem dX11_circleOf_35 : decode cX11_circleOf 35 = .ok (.iload 5, 2) := by decide +kernel
theorem dX11_circleOf_37 : decode cX11_circleOf 37 = .ok (.iconst 4, 1) := by decide +kernel
theorem dX11_circleOf_38 : decode cX11_circleOf 38 = .ok (.idiv, 1) := by decide +kernel
theorem dX11_circleOf_39 : decode cX11_circleOf 39 = .ok (.iload_n 2, 1) := by decide +kernel
theorem dX11_circleOf_40 : decode cX11_circleOf 40 = .ok (.iconst 4, 1) := by decide +kernel
theorem dX11_circleOf_41 : decode cX11_circleOf 41 = .ok (.idiv, 1) := by decide +kernel
theorem dX11_circleOf_42 : decode cX11_circleOf 42 = .ok (.invokestatic 252, 3) := by decide +kernel
theorem dX11_circleOf_45 : decode cX11_circleOf 45 = .ok (.iadd, 1) := by decide +kernel
theorem dX11_circleOf_46 : decode cX11_circleOf 46 = .ok (.iload_n 3, 1) := by decide +kernel
theorem dX11_circleOf_47 : decode cX11_circleOf 47 = .ok (.if_icmp .gt 10, 3) := by decide +kernel
theorem dX11_circleOf_50 : decode cX11_circleOf 50 = .ok (.iconst 1, 1) := by decide +kernel
theorem dX11_circleOf_51 : decode cX11_circleOf 51 = .ok (.iload 5, 2) := by decide +kernel
theorem dX11_circleOf_53 : decode cX11_circleOf 53 = .ok (.ishl, 1) := by decide +kernel
theorem dX11_circleOf_54 : decode cX11_circleOf 54 = .ok (.goto 4, 3) := by decide +kernel
theorem dX11_circleOf_57 : decode cX11_circleOf 57 = .ok (.iconst 0, 1) := by decide +kernel
theorem dX11_circleOf_58 : decode cX11_circleOf 58 = .ok (.ior, 1) := by decide +kernel
theorem dX11_circleOf_59 : decode cX11_circleOf 59 = .ok (.istore 4, 2) := by decide +kernel
theorem dX11_circleOf_61 : decode cX11_circleOf 61 = .ok (.iinc 5 1, 3) := by decide +kernel
theorem dX11_circleOf_64 : decode cX11_circleOf 64 = .ok (.goto (-58), 3) := by decide +kernel
theorem dX11_circleOf_67 : decode cX11_circleOf 67 = .ok (.iload 4, 2) := by decide +kernel
theorem dX11_circleOf_69 : decode cX11_circleOf 69 = .ok (.ireturn, 1) := by decide +kernel
theorem dX11_covers_0 : decode cX11_covers 0 = .ok (.iload_n 3, 1) := by decide +kernel
theorem dX11_covers_1 : decode cX11_covers 1 = .ok (.ifCond .ne 32, 3) := by decide +kernel
theorem dX11_covers_4 : decode cX11_covers 4 = .ok (.aload_n 0, 1) := by decide +kernel
theorem dX11_covers_5 : decode cX11_covers 5 = .ok (.iload 4, 2) := by decide +kernel
theorem dX11_covers_7 : decode cX11_covers 7 = .ok (.ifCond .ne 8, 3) := by decide +kernel
theorem dX11_covers_10 : decode cX11_covers 10 = .ok (.iload 6, 2) := by decide +kernel
theorem dX11_covers_12 : decode cX11_covers 12 = .ok (.goto 7, 3) := by decide +kernel
theorem dX11_covers_15 : decode cX11_covers 15 = .ok (.aload_n 0, 1) := by decide +kernel
theorem dX11_covers_16 : decode cX11_covers 16 = .ok (.getfield 369, 3) := by decide +kernel
theorem dX11_covers_19 : decode cX11_covers 19 = .ok (.putfield 369, 3) := by decide +kernel
theorem dX11_covers_22 : decode cX11_covers 22 = .ok (.iload 4, 2) := by decide +kernel
theorem dX11_covers_24 : decode cX11_covers 24 = .ok (.ifCond .ne 7, 3) := by decide +kernel
theorem dX11_covers_27 : decode cX11_covers 27 = .ok (.iconst 1, 1) := by decide +kernel
theorem dX11_covers_28 : decode cX11_covers 28 = .ok (.goto 4, 3) := by decide +kernel
theorem dX11_covers_31 : decode cX11_covers 31 = .ok (.iconst 0, 1) := by decide +kernel
theorem dX11_covers_32 : decode cX11_covers 32 = .ok (.ireturn, 1) := by decide +kernel
theorem dX11_covers_33 : decode cX11_covers 33 = .ok (.iload_n 2, 1) := by decide +kernel
theorem dX11_covers_34 : decode cX11_covers 34 = .ok (.istore 7, 2) := by decide +kernel
theorem dX11_covers_36 : decode cX11_covers 36 = .ok (.iload 7, 2) := by decide +kernel
theorem dX11_covers_38 : decode cX11_covers 38 = .ok (.bipush 16, 2) := by decide +kernel
theorem dX11_covers_40 : decode cX11_covers 40 = .ok (.if_icmp .ge 60, 3) := by decide +kernel
theorem dX11_covers_43 : decode cX11_covers 43 = .ok (.aload_n 0, 1) := by decide +kernel
theorem dX11_covers_44 : decode cX11_covers 44 = .ok (.iload_n 1, 1) := by decide +kernel
theorem dX11_covers_45 : decode cX11_covers 45 = .ok (.iload 7, 2) := by decide +kernel
theorem dX11_covers_47 : decode cX11_covers 47 = .ok (.invokevirtual 248, 3) := by decide +kernel
theorem dX11_covers_50 : decode cX11_covers 50 = .ok (.ifCond .eq 44, 3) := by decide +kernel
theorem dX11_covers_53 : decode cX11_covers 53 = .ok (.aload_n 0, 1) := by decide +kernel
theorem dX11_covers_54 : decode cX11_covers 54 = .ok (.iload_n 1, 1) := by decide +kernel
theorem dX11_covers_55 : decode cX11_covers 55 = .ok (.iload 7, 2) := by decide +kernel
theorem dX11_covers_57 : decode cX11_covers 57 = .ok (.iconst 1, 1) := by decide +kernel
theorem dX11_covers_58 : decode cX11_covers 58 = .ok (.iadd, 1) := by decide +kernel
theorem dX11_covers_59 : decode cX11_covers 59 = .ok (.iload_n 3, 1) := by decide +kernel
theorem dX11_covers_60 : decode cX11_covers 60 = .ok (.iconst 1, 1) := by decide +kernel
theorem dX11_covers_61 : decode cX11_covers 61 = .ok (.isub, 1) := by decide +kernel
theorem dX11_covers_62 : decode cX11_covers 62 = .ok (.iload 4, 2) := by decide +kernel
theorem dX11_covers_64 : decode cX11_covers 64 = .ok (.aload_n 0, 1) := by decide +kernel
theorem dX11_covers_65 : decode cX11_covers 65 = .ok (.iload_n 1, 1) := by decide +kernel
theorem dX11_covers_66 : decode cX11_covers 66 = .ok (.iload 7, 2) := by decide +kernel
theorem dX11_covers_68 : decode cX11_covers 68 = .ok (.iload 5, 2) := by decide +kernel
theorem dX11_covers_70 : decode cX11_covers 70 = .ok (.invokevirtual 372, 3) := by decide +kernel
theorem dX11_covers_73 : decode cX11_covers 73 = .ok (.iconst (-1), 1) := by decide +kernel
theorem dX11_covers_74 : decode cX11_covers 74 = .ok (.ixor, 1) := by decide +kernel
theorem dX11_covers_75 : decode cX11_covers 75 = .ok (.iand, 1) := by decide +kernel
theorem dX11_covers_76 : decode cX11_covers 76 = .ok (.iload 5, 2) := by decide +kernel
theorem dX11_covers_78 : decode cX11_covers 78 = .ok (.bipush 16, 2) := by decide +kernel
theorem dX11_covers_80 : decode cX11_covers 80 = .ok (.iload 6, 2) := by decide +kernel
theorem dX11_covers_82 : decode cX11_covers 82 = .ok (.imul, 1) := by decide +kernel
theorem dX11_covers_83 : decode cX11_covers 83 = .ok (.iload 7, 2) := by decide +kernel
theorem dX11_covers_85 : decode cX11_covers 85 = .ok (.iadd, 1) := by decide +kernel
theorem dX11_covers_86 : decode cX11_covers 86 = .ok (.invokevirtual 375, 3) := by decide +kernel
theorem dX11_covers_89 : decode cX11_covers 89 = .ok (.ifCond .eq 5, 3) := by decide +kernel
theorem dX11_covers_92 : decode cX11_covers 92 = .ok (.iconst 1, 1) := by decide +kernel
theorem dX11_covers_93 : decode cX11_covers 93 = .ok (.ireturn, 1) := by decide +kernel
theorem dX11_covers_94 : decode cX11_covers 94 = .ok (.iinc 7 1, 3) := by decide +kernel
theorem dX11_covers_97 : decode cX11_covers 97 = .ok (.goto (-61), 3) := by decide +kernel
theorem dX11_covers_100 : decode cX11_covers 100 = .ok (.iconst 0, 1) := by decide +kernel
theorem dX11_covers_101 : decode cX11_covers 101 = .ok (.ireturn, 1) := by decide +kernel
theorem dX11_cover_0 : decode cX11_cover 0 = .ok (.aload_n 0, 1) := by decide +kernel
theorem dX11_cover_1 : decode cX11_cover 1 = .ok (.iconst 0, 1) := by decide +kernel
theorem dX11_cover_2 : decode cX11_cover 2 = .ok (.putfield 85, 3) := by decide +kernel
theorem dX11_cover_5 : decode cX11_cover 5 = .ok (.aload_n 0, 1) := by decide +kernel
theorem dX11_cover_6 : decode cX11_cover 6 = .ok (.aload_n 0, 1) := by decide +kernel
theorem dX11_cover_7 : decode cX11_cover 7 = .ok (.iload_n 1, 1) := by decide +kernel
theorem dX11_cover_8 : decode cX11_cover 8 = .ok (.invokevirtual 315, 3) := by decide +kernel
theorem dX11_cover_11 : decode cX11_cover 11 = .ok (.ifCond .ne 7, 3) := by decide +kernel
theorem dX11_cover_14 : decode cX11_cover 14 = .ok (.iconst 1, 1) := by decide +kernel
theorem dX11_cover_15 : decode cX11_cover 15 = .ok (.goto 4, 3) := by decide +kernel
theorem dX11_cover_18 : decode cX11_cover 18 = .ok (.iconst 0, 1) := by decide +kernel
theorem dX11_cover_19 : decode cX11_cover 19 = .ok (.iconst 1, 1) := by decide +kernel
theorem dX11_cover_20 : decode cX11_cover 20 = .ok (.iconst 1, 1) := by decide +kernel
theorem dX11_cover_21 : decode cX11_cover 21 = .ok (.invokevirtual 158, 3) := by decide +kernel
theorem dX11_cover_24 : decode cX11_cover 24 = .ok (.ifCond .ne 46, 3) := by decide +kernel
theorem dX11_cover_27 : decode cX11_cover 27 = .ok (.aload_n 0, 1) := by decide +kernel
theorem dX11_cover_28 : decode cX11_cover 28 = .ok (.aload_n 0, 1) := by decide +kernel
theorem dX11_cover_29 : decode cX11_cover 29 = .ok (.iload_n 1, 1) := by decide +kernel
theorem dX11_cover_30 : decode cX11_cover 30 = .ok (.iload_n 2, 1) := by decide +kernel
theorem dX11_cover_31 : decode cX11_cover 31 = .ok (.invokevirtual 342, 3) := by decide +kernel
theorem dX11_cover_34 : decode cX11_cover 34 = .ok (.ifCond .eq 23, 3) := by decide +kernel
theorem dX11_cover_37 : decode cX11_cover 37 = .ok (.iload_n 3, 1) := by decide +kernel
theorem dX11_cover_38 : decode cX11_cover 38 = .ok (.iconst 0, 1) := by decide +kernel
theorem dX11_cover_39 : decode cX11_cover 39 = .ok (.bipush 6, 2) := by decide +kernel
theorem dX11_cover_41 : decode cX11_cover 41 = .ok (.invokestatic 119, 3) := by decide +kernel
theorem dX11_cover_44 : decode cX11_cover 44 = .ok (.ifCond .eq 13, 3) := by decide +kernel
theorem dX11_cover_47 : decode cX11_cover 47 = .ok (.iload 4, 2) := by decide +kernel
theorem dX11_cover_49 : decode cX11_cover 49 = .ok (.iconst 0, 1) := by decide +kernel
theorem dX11_cover_50 : decode cX11_cover 50 = .ok (.iconst 1, 1) := by decide +kernel
theorem dX11_cover_51 : decode cX11_cover 51 = .ok (.invokestatic 119, 3) := by decide +kernel
theorem dX11_cover_54 : decode cX11_cover 54 = .ok (.ifCond .ne 7, 3) := by decide +kernel
theorem dX11_cover_57 : decode cX11_cover 57 = .ok (.iconst 1, 1) := by decide +kernel
theorem dX11_cover_58 : decode cX11_cover 58 = .ok (.goto 4, 3) := by decide +kernel
theorem dX11_cover_61 : decode cX11_cover 61 = .ok (.iconst 0, 1) := by decide +kernel
theorem dX11_cover_62 : decode cX11_cover 62 = .ok (.iconst 2, 1) := by decide +kernel
theorem dX11_cover_63 : decode cX11_cover 63 = .ok (.iconst 2, 1) := by decide +kernel
theorem dX11_cover_64 : decode cX11_cover 64 = .ok (.invokevirtual 158, 3) := by decide +kernel
theorem dX11_cover_67 : decode cX11_cover 67 = .ok (.ifCond .eq 5, 3) := by decide +kernel
theorem dX11_cover_70 : decode cX11_cover 70 = .ok (.iconst 0, 1) := by decide +kernel
theorem dX11_cover_71 : decode cX11_cover 71 = .ok (.ireturn, 1) := by decide +kernel
theorem dX11_cover_72 : decode cX11_cover 72 = .ok (.iconst 0, 1) := by decide +kernel
theorem dX11_cover_73 : decode cX11_cover 73 = .ok (.istore 5, 2) := by decide +kernel
theorem dX11_cover_75 : decode cX11_cover 75 = .ok (.iload 5, 2) := by decide +kernel
theorem dX11_cover_77 : decode cX11_cover 77 = .ok (.iconst 5, 1) := by decide +kernel
theorem dX11_cover_78 : decode cX11_cover 78 = .ok (.if_icmp .ge 38, 3) := by decide +kernel
theorem dX11_cover_81 : decode cX11_cover 81 = .ok (.aload_n 0, 1) := by decide +kernel
theorem dX11_cover_82 : decode cX11_cover 82 = .ok (.iload_n 1, 1) := by decide +kernel
theorem dX11_cover_83 : decode cX11_cover 83 = .ok (.iconst 0, 1) := by decide +kernel
theorem dX11_cover_84 : decode cX11_cover 84 = .ok (.iload 5, 2) := by decide +kernel
theorem dX11_cover_86 : decode cX11_cover 86 = .ok (.iload_n 2, 1) := by decide +kernel
theorem dX11_cover_87 : decode cX11_cover 87 = .ok (.iload_n 3, 1) := by decide +kernel
theorem dX11_cover_88 : decode cX11_cover 88 = .ok (.iconst 0, 1) := by decide +kernel
theorem dX11_cover_89 : decode cX11_cover 89 = .ok (.invokevirtual 375, 3) := by decide +kernel
theorem dX11_cover_92 : decode cX11_cover 92 = .ok (.ifCond .eq 18, 3) := by decide +kernel
theorem dX11_cover_95 : decode cX11_cover 95 = .ok (.iload 4, 2) := by decide +kernel
theorem dX11_cover_97 : decode cX11_cover 97 = .ok (.ifCond .ne 8, 3) := by decide +kernel
theorem dX11_cover_100 : decode cX11_cover 100 = .ok (.iload 5, 2) := by decide +kernel
theorem dX11_cover_102 : decode cX11_cover 102 = .ok (.goto 7, 3) := by decide +kernel
theorem dX11_cover_105 : decode cX11_cover 105 = .ok (.aload_n 0, 1) := by decide +kernel
theorem dX11_cover_106 : decode cX11_cover 106 = .ok (.getfield 369, 3) := by decide +kernel
theorem dX11_cover_109 : decode cX11_cover 109 = .ok (.ireturn, 1) := by decide +kernel
theorem dX11_cover_110 : decode cX11_cover 110 = .ok (.iinc 5 1, 3) := by decide +kernel
theorem dX11_cover_113 : decode cX11_cover 113 = .ok (.goto (-38), 3) := by decide +kernel
theorem dX11_cover_116 : decode cX11_cover 116 = .ok (.iconst (-1), 1) := by decide +kernel
theorem dX11_cover_117 : decode cX11_cover 117 = .ok (.ireturn, 1) := by decide +kernel
theorem dX11_game_0 : decode cX11_game 0 = .ok (.aload_n 0, 1) := by decide +kernel
theorem dX11_game_1 : decode cX11_game 1 = .ok (.iconst 0, 1) := by decide +kernel
theorem dX11_game_2 : decode cX11_game 2 = .ok (.putfield 85, 3) := by decide +kernel
theorem dX11_game_5 : decode cX11_game 5 = .ok (.aload_n 0, 1) := by decide +kernel
theorem dX11_game_6 : decode cX11_game 6 = .ok (.aload_n 0, 1) := by decide +kernel
theorem dX11_game_7 : decode cX11_game 7 = .ok (.iload_n 1, 1) := by decide +kernel
theorem dX11_game_8 : decode cX11_game 8 = .ok (.invokevirtual 315, 3) := by decide +kernel
theorem dX11_game_11 : decode cX11_game 11 = .ok (.ifCond .ne 7, 3) := by decide +kernel
theorem dX11_game_14 : decode cX11_game 14 = .ok (.iconst 1, 1) := by decide +kernel
theorem dX11_game_15 : decode cX11_game 15 = .ok (.goto 4, 3) := by decide +kernel
theorem dX11_game_18 : decode cX11_game 18 = .ok (.iconst 0, 1) := by decide +kernel
theorem dX11_game_19 : decode cX11_game 19 = .ok (.iconst 1, 1) := by decide +kernel
theorem dX11_game_20 : decode cX11_game 20 = .ok (.iconst 1, 1) := by decide +kernel
theorem dX11_game_21 : decode cX11_game 21 = .ok (.invokevirtual 158, 3) := by decide +kernel
theorem dX11_game_24 : decode cX11_game 24 = .ok (.ifCond .ne 36, 3) := by decide +kernel
theorem dX11_game_27 : decode cX11_game 27 = .ok (.aload_n 0, 1) := by decide +kernel
theorem dX11_game_28 : decode cX11_game 28 = .ok (.iload_n 2, 1) := by decide +kernel
theorem dX11_game_29 : decode cX11_game 29 = .ok (.iconst 1, 1) := by decide +kernel
theorem dX11_game_30 : decode cX11_game 30 = .ok (.bipush 30, 2) := by decide +kernel
theorem dX11_game_32 : decode cX11_game 32 = .ok (.invokestatic 119, 3) := by decide +kernel
theorem dX11_game_35 : decode cX11_game 35 = .ok (.ifCond .eq 12, 3) := by decide +kernel
theorem dX11_game_38 : decode cX11_game 38 = .ok (.iload_n 3, 1) := by decide +kernel
theorem dX11_game_39 : decode cX11_game 39 = .ok (.iconst 0, 1) := by decide +kernel
theorem dX11_game_40 : decode cX11_game 40 = .ok (.iconst 1, 1) := by decide +kernel
theorem dX11_game_41 : decode cX11_game 41 = .ok (.invokestatic 119, 3) := by decide +kernel
theorem dX11_game_44 : decode cX11_game 44 = .ok (.ifCond .ne 7, 3) := by decide +kernel
theorem dX11_game_47 : decode cX11_game 47 = .ok (.iconst 1, 1) := by decide +kernel
theorem dX11_game_48 : decode cX11_game 48 = .ok (.goto 4, 3) := by decide +kernel
theorem dX11_game_51 : decode cX11_game 51 = .ok (.iconst 0, 1) := by decide +kernel
theorem dX11_game_52 : decode cX11_game 52 = .ok (.iconst 2, 1) := by decide +kernel
theorem dX11_game_53 : decode cX11_game 53 = .ok (.iconst 2, 1) := by decide +kernel
theorem dX11_game_54 : decode cX11_game 54 = .ok (.invokevirtual 158, 3) := by decide +kernel
theorem dX11_game_57 : decode cX11_game 57 = .ok (.ifCond .eq 5, 3) := by decide +kernel
theorem dX11_game_60 : decode cX11_game 60 = .ok (.iconst 0, 1) := by decide +kernel
theorem dX11_game_61 : decode cX11_game 61 = .ok (.ireturn, 1) := by decide +kernel
theorem dX11_game_62 : decode cX11_game 62 = .ok (.iconst 0, 1) := by decide +kernel
theorem dX11_game_63 : decode cX11_game 63 = .ok (.istore 4, 2) := by decide +kernel
theorem dX11_game_65 : decode cX11_game 65 = .ok (.iconst 0, 1) := by decide +kernel
theorem dX11_game_66 : decode cX11_game 66 = .ok (.istore 5, 2) := by decide +kernel
theorem dX11_game_68 : decode cX11_game 68 = .ok (.iconst 0, 1) := by decide +kernel
theorem dX11_game_69 : decode cX11_game 69 = .ok (.istore 6, 2) := by decide +kernel
theorem dX11_game_71 : decode cX11_game 71 = .ok (.iload 6, 2) := by decide +kernel
theorem dX11_game_73 : decode cX11_game 73 = .ok (.bipush 16, 2) := by decide +kernel
theorem dX11_game_75 : decode cX11_game 75 = .ok (.if_icmp .ge 34, 3) := by decide +kernel
theorem dX11_game_78 : decode cX11_game 78 = .ok (.iload 4, 2) := by decide +kernel
theorem dX11_game_80 : decode cX11_game 80 = .ok (.aload_n 0, 1) := by decide +kernel
theorem dX11_game_81 : decode cX11_game 81 = .ok (.getfield 67, 3) := by decide +kernel
theorem dX11_game_84 : decode cX11_game 84 = .ok (.sipush 2400, 3) := by decide +kernel
theorem dX11_game_87 : decode cX11_game 87 = .ok (.bipush 16, 2) := by decide +kernel
theorem dX11_game_89 : decode cX11_game 89 = .ok (.iload_n 1, 1) := by decide +kernel
theorem dX11_game_90 : decode cX11_game 90 = .ok (.imul, 1) := by decide +kernel
theorem dX11_game_91 : decode cX11_game 91 = .ok (.iadd, 1) := by decide +kernel
theorem dX11_game_92 : decode cX11_game 92 = .ok (.iload 6, 2) := by decide +kernel
theorem dX11_game_94 : decode cX11_game 94 = .ok (.iadd, 1) := by decide +kernel
theorem dX11_game_95 : decode cX11_game 95 = .ok (.iaload, 1) := by decide +kernel
theorem dX11_game_96 : decode cX11_game 96 = .ok (.iload_n 2, 1) := by decide +kernel
theorem dX11_game_97 : decode cX11_game 97 = .ok (.iconst 1, 1) := by decide +kernel
theorem dX11_game_98 : decode cX11_game 98 = .ok (.iadd, 1) := by decide +kernel
theorem dX11_game_99 : decode cX11_game 99 = .ok (.irem, 1) := by decide +kernel
theorem dX11_game_100 : decode cX11_game 100 = .ok (.ixor, 1) := by decide +kernel
theorem dX11_game_101 : decode cX11_game 101 = .ok (.istore 4, 2) := by decide +kernel
theorem dX11_game_103 : decode cX11_game 103 = .ok (.iinc 6 1, 3) := by decide +kernel
theorem dX11_game_106 : decode cX11_game 106 = .ok (.goto (-35), 3) := by decide +kernel
theorem dX11_game_109 : decode cX11_game 109 = .ok (.iconst 0, 1) := by decide +kernel
theorem dX11_game_110 : decode cX11_game 110 = .ok (.istore 6, 2) := by decide +kernel
theorem dX11_game_112 : decode cX11_game 112 = .ok (.iload 6, 2) := by decide +kernel
theorem dX11_game_114 : decode cX11_game 114 = .ok (.bipush 16, 2) := by decide +kernel
theorem dX11_game_116 : decode cX11_game 116 = .ok (.if_icmp .ge 87, 3) := by decide +kernel
theorem dX11_game_119 : decode cX11_game 119 = .ok (.aload_n 0, 1) := by decide +kernel
theorem dX11_game_120 : decode cX11_game 120 = .ok (.getfield 67, 3) := by decide +kernel
theorem dX11_game_123 : decode cX11_game 123 = .ok (.sipush 2400, 3) := by decide +kernel
theorem dX11_game_126 : decode cX11_game 126 = .ok (.bipush 16, 2) := by decide +kernel
theorem dX11_game_128 : decode cX11_game 128 = .ok (.iload_n 1, 1) := by decide +kernel
theorem dX11_game_129 : decode cX11_game 129 = .ok (.imul, 1) := by decide +kernel
theorem dX11_game_130 : decode cX11_game 130 = .ok (.iadd, 1) := by decide +kernel
theorem dX11_game_131 : decode cX11_game 131 = .ok (.iload 6, 2) := by decide +kernel
theorem dX11_game_133 : decode cX11_game 133 = .ok (.iadd, 1) := by decide +kernel
theorem dX11_game_134 : decode cX11_game 134 = .ok (.iaload, 1) := by decide +kernel
theorem dX11_game_135 : decode cX11_game 135 = .ok (.istore 7, 2) := by decide +kernel
theorem dX11_game_137 : decode cX11_game 137 = .ok (.iload 4, 2) := by decide +kernel
theorem dX11_game_139 : decode cX11_game 139 = .ok (.iload 7, 2) := by decide +kernel
theorem dX11_game_141 : decode cX11_game 141 = .ok (.iload_n 2, 1) := by decide +kernel
theorem dX11_game_142 : decode cX11_game 142 = .ok (.iconst 1, 1) := by decide +kernel
theorem dX11_game_143 : decode cX11_game 143 = .ok (.iadd, 1) := by decide +kernel
theorem dX11_game_144 : decode cX11_game 144 = .ok (.irem, 1) := by decide +kernel
theorem dX11_game_145 : decode cX11_game 145 = .ok (.ixor, 1) := by decide +kernel
theorem dX11_game_146 : decode cX11_game 146 = .ok (.istore 8, 2) := by decide +kernel
theorem dX11_game_148 : decode cX11_game 148 = .ok (.iconst 1, 1) := by decide +kernel
theorem dX11_game_149 : decode cX11_game 149 = .ok (.istore 9, 2) := by decide +kernel
theorem dX11_game_151 : decode cX11_game 151 = .ok (.iload 9, 2) := by decide +kernel
theorem dX11_game_153 : decode cX11_game 153 = .ok (.iload_n 2, 1) := by decide +kernel
theorem dX11_game_154 : decode cX11_game 154 = .ok (.if_icmp .gt 43, 3) := by decide +kernel
theorem dX11_game_157 : decode cX11_game 157 = .ok (.iload 9, 2) := by decide +kernel
theorem dX11_game_159 : decode cX11_game 159 = .ok (.iload 7, 2) := by decide +kernel
theorem dX11_game_161 : decode cX11_game 161 = .ok (.if_icmp .gt 36, 3) := by decide +kernel
theorem dX11_game_164 : decode cX11_game 164 = .ok (.iload 5, 2) := by decide +kernel
theorem dX11_game_166 : decode cX11_game 166 = .ok (.iload 7, 2) := by decide +kernel
theorem dX11_game_168 : decode cX11_game 168 = .ok (.iload 9, 2) := by decide +kernel
theorem dX11_game_170 : decode cX11_game 170 = .ok (.isub, 1) := by decide +kernel
theorem dX11_game_171 : decode cX11_game 171 = .ok (.iload_n 2, 1) := by decide +kernel
theorem dX11_game_172 : decode cX11_game 172 = .ok (.iconst 1, 1) := by decide +kernel
theorem dX11_game_173 : decode cX11_game 173 = .ok (.iadd, 1) := by decide +kernel
theorem dX11_game_174 : decode cX11_game 174 = .ok (.irem, 1) := by decide +kernel
theorem dX11_game_175 : decode cX11_game 175 = .ok (.iload 8, 2) := by decide +kernel
theorem dX11_game_177 : decode cX11_game 177 = .ok (.if_icmp .ne 10, 3) := by decide +kernel
theorem dX11_game_180 : decode cX11_game 180 = .ok (.iconst 1, 1) := by decide +kernel
theorem dX11_game_181 : decode cX11_game 181 = .ok (.iload 6, 2) := by decide +kernel
theorem dX11_game_183 : decode cX11_game 183 = .ok (.ishl, 1) := by decide +kernel
theorem dX11_game_184 : decode cX11_game 184 = .ok (.goto 4, 3) := by decide +kernel
theorem dX11_game_187 : decode cX11_game 187 = .ok (.iconst 0, 1) := by decide +kernel
theorem dX11_game_188 : decode cX11_game 188 = .ok (.ior, 1) := by decide +kernel
theorem dX11_game_189 : decode cX11_game 189 = .ok (.istore 5, 2) := by decide +kernel
theorem dX11_game_191 : decode cX11_game 191 = .ok (.iinc 9 1, 3) := by decide +kernel
theorem dX11_game_194 : decode cX11_game 194 = .ok (.goto (-43), 3) := by decide +kernel
theorem dX11_game_197 : decode cX11_game 197 = .ok (.iinc 6 1, 3) := by decide +kernel
theorem dX11_game_200 : decode cX11_game 200 = .ok (.goto (-88), 3) := by decide +kernel
theorem dX11_game_203 : decode cX11_game 203 = .ok (.iload_n 3, 1) := by decide +kernel
theorem dX11_game_204 : decode cX11_game 204 = .ok (.ifCond .ne 16, 3) := by decide +kernel
theorem dX11_game_207 : decode cX11_game 207 = .ok (.iload 4, 2) := by decide +kernel
theorem dX11_game_209 : decode cX11_game 209 = .ok (.ifCond .ne 7, 3) := by decide +kernel
theorem dX11_game_212 : decode cX11_game 212 = .ok (.iconst 0, 1) := by decide +kernel
theorem dX11_game_213 : decode cX11_game 213 = .ok (.goto 9, 3) := by decide +kernel
theorem dX11_game_216 : decode cX11_game 216 = .ok (.iconst 1, 1) := by decide +kernel
theorem dX11_game_217 : decode cX11_game 217 = .ok (.goto 5, 3) := by decide +kernel
theorem dX11_game_220 : decode cX11_game 220 = .ok (.iload 5, 2) := by decide +kernel
theorem dX11_game_222 : decode cX11_game 222 = .ok (.ireturn, 1) := by decide +kernel
theorem dX11_wayTo_0 : decode cX11_wayTo 0 = .ok (.aload_n 0, 1) := by decide +kernel
theorem dX11_wayTo_1 : decode cX11_wayTo 1 = .ok (.getfield 23, 3) := by decide +kernel
theorem dX11_wayTo_4 : decode cX11_wayTo 4 = .ok (.iconst 3, 1) := by decide +kernel
theorem dX11_wayTo_5 : decode cX11_wayTo 5 = .ok (.iaload, 1) := by decide +kernel
theorem dX11_wayTo_6 : decode cX11_wayTo 6 = .ok (.aload_n 0, 1) := by decide +kernel
theorem dX11_wayTo_7 : decode cX11_wayTo 7 = .ok (.getfield 31, 3) := by decide +kernel
theorem dX11_wayTo_10 : decode cX11_wayTo 10 = .ok (.iload_n 2, 1) := by decide +kernel
theorem dX11_wayTo_11 : decode cX11_wayTo 11 = .ok (.aaload, 1) := by decide +kernel
theorem dX11_wayTo_12 : decode cX11_wayTo 12 = .ok (.iconst 2, 1) := by decide +kernel
theorem dX11_wayTo_13 : decode cX11_wayTo 13 = .ok (.iaload, 1) := by decide +kernel
theorem dX11_wayTo_14 : decode cX11_wayTo 14 = .ok (.iload_n 1, 1) := by decide +kernel
theorem dX11_wayTo_15 : decode cX11_wayTo 15 = .ok (.iconst (-1), 1) := by decide +kernel
theorem dX11_wayTo_16 : decode cX11_wayTo 16 = .ok (.if_icmp .ne 7, 3) := by decide +kernel
theorem dX11_wayTo_19 : decode cX11_wayTo 19 = .ok (.iconst 0, 1) := by decide +kernel
theorem dX11_wayTo_20 : decode cX11_wayTo 20 = .ok (.goto 11, 3) := by decide +kernel
theorem dX11_wayTo_23 : decode cX11_wayTo 23 = .ok (.aload_n 0, 1) := by decide +kernel
theorem dX11_wayTo_24 : decode cX11_wayTo 24 = .ok (.getfield 31, 3) := by decide +kernel
theorem dX11_wayTo_27 : decode cX11_wayTo 27 = .ok (.iload_n 1, 1) := by decide +kernel
theorem dX11_wayTo_28 : decode cX11_wayTo 28 = .ok (.aaload, 1) := by decide +kernel
theorem dX11_wayTo_29 : decode cX11_wayTo 29 = .ok (.iconst 2, 1) := by decide +kernel
theorem dX11_wayTo_30 : decode cX11_wayTo 30 = .ok (.iaload, 1) := by decide +kernel
theorem dX11_wayTo_31 : decode cX11_wayTo 31 = .ok (.invokestatic 252, 3) := by decide +kernel
theorem dX11_wayTo_34 : decode cX11_wayTo 34 = .ok (.imul, 1) := by decide +kernel
theorem dX11_wayTo_35 : decode cX11_wayTo 35 = .ok (.aload_n 0, 1) := by decide +kernel
theorem dX11_wayTo_36 : decode cX11_wayTo 36 = .ok (.getfield 23, 3) := by decide +kernel
theorem dX11_wayTo_39 : decode cX11_wayTo 39 = .ok (.iconst 4, 1) := by decide +kernel
theorem dX11_wayTo_40 : decode cX11_wayTo 40 = .ok (.iaload, 1) := by decide +kernel
theorem dX11_wayTo_41 : decode cX11_wayTo 41 = .ok (.aload_n 0, 1) := by decide +kernel
theorem dX11_wayTo_42 : decode cX11_wayTo 42 = .ok (.getfield 31, 3) := by decide +kernel
theorem dX11_wayTo_45 : decode cX11_wayTo 45 = .ok (.iload_n 2, 1) := by decide +kernel
theorem dX11_wayTo_46 : decode cX11_wayTo 46 = .ok (.aaload, 1) := by decide +kernel
theorem dX11_wayTo_47 : decode cX11_wayTo 47 = .ok (.iconst 3, 1) := by decide +kernel
theorem dX11_wayTo_48 : decode cX11_wayTo 48 = .ok (.iaload, 1) := by decide +kernel
theorem dX11_wayTo_49 : decode cX11_wayTo 49 = .ok (.iload_n 1, 1) := by decide +kernel
theorem dX11_wayTo_50 : decode cX11_wayTo 50 = .ok (.iconst (-1), 1) := by decide +kernel
theorem dX11_wayTo_51 : decode cX11_wayTo 51 = .ok (.if_icmp .ne 7, 3) := by decide +kernel
theorem dX11_wayTo_54 : decode cX11_wayTo 54 = .ok (.iconst 0, 1) := by decide +kernel
theorem dX11_wayTo_55 : decode cX11_wayTo 55 = .ok (.goto 11, 3) := by decide +kernel
theorem dX11_wayTo_58 : decode cX11_wayTo 58 = .ok (.aload_n 0, 1) := by decide +kernel
theorem dX11_wayTo_59 : decode cX11_wayTo 59 = .ok (.getfield 31, 3) := by decide +kernel
theorem dX11_wayTo_62 : decode cX11_wayTo 62 = .ok (.iload_n 1, 1) := by decide +kernel
theorem dX11_wayTo_63 : decode cX11_wayTo 63 = .ok (.aaload, 1) := by decide +kernel
theorem dX11_wayTo_64 : decode cX11_wayTo 64 = .ok (.iconst 3, 1) := by decide +kernel
theorem dX11_wayTo_65 : decode cX11_wayTo 65 = .ok (.iaload, 1) := by decide +kernel
theorem dX11_wayTo_66 : decode cX11_wayTo 66 = .ok (.invokestatic 252, 3) := by decide +kernel
theorem dX11_wayTo_69 : decode cX11_wayTo 69 = .ok (.imul, 1) := by decide +kernel
theorem dX11_wayTo_70 : decode cX11_wayTo 70 = .ok (.iadd, 1) := by decide +kernel
theorem dX11_wayTo_71 : decode cX11_wayTo 71 = .ok (.ireturn, 1) := by decide +kernel
theorem dX11_rounds_0 : decode cX11_rounds 0 = .ok (.iload_n 2, 1) := by decide +kernel
theorem dX11_rounds_1 : decode cX11_rounds 1 = .ok (.ifCond .ne 32, 3) := by decide +kernel
theorem dX11_rounds_4 : decode cX11_rounds 4 = .ok (.aload_n 0, 1) := by decide +kernel
theorem dX11_rounds_5 : decode cX11_rounds 5 = .ok (.getfield 378, 3) := by decide +kernel
theorem dX11_rounds_8 : decode cX11_rounds 8 = .ok (.iconst (-1), 1) := by decide +kernel
theorem dX11_rounds_9 : decode cX11_rounds 9 = .ok (.if_icmp .eq 12, 3) := by decide +kernel
theorem dX11_rounds_12 : decode cX11_rounds 12 = .ok (.iload_n 3, 1) := by decide +kernel
theorem dX11_rounds_13 : decode cX11_rounds 13 = .ok (.aload_n 0, 1) := by decide +kernel
theorem dX11_rounds_14 : decode cX11_rounds 14 = .ok (.getfield 378, 3) := by decide +kernel
theorem dX11_rounds_17 : decode cX11_rounds 17 = .ok (.if_icmp .lt 4, 3) := by decide +kernel
theorem dX11_rounds_20 : decode cX11_rounds 20 = .ok (.return_, 1) := by decide +kernel
theorem dX11_rounds_21 : decode cX11_rounds 21 = .ok (.aload_n 0, 1) := by decide +kernel
theorem dX11_rounds_22 : decode cX11_rounds 22 = .ok (.iload_n 3, 1) := by decide +kernel
theorem dX11_rounds_23 : decode cX11_rounds 23 = .ok (.putfield 378, 3) := by decide +kernel
theorem dX11_rounds_26 : decode cX11_rounds 26 = .ok (.aload_n 0, 1) := by decide +kernel
theorem dX11_rounds_27 : decode cX11_rounds 27 = .ok (.iload 4, 2) := by decide +kernel
theorem dX11_rounds_29 : decode cX11_rounds 29 = .ok (.putfield 381, 3) := by decide +kernel
theorem dX11_rounds_32 : decode cX11_rounds 32 = .ok (.return_, 1) := by decide +kernel
theorem dX11_rounds_33 : decode cX11_rounds 33 = .ok (.iconst 0, 1) := by decide +kernel
theorem dX11_rounds_34 : decode cX11_rounds 34 = .ok (.istore 5, 2) := by decide +kernel
theorem dX11_rounds_36 : decode cX11_rounds 36 = .ok (.iload 5, 2) := by decide +kernel
theorem dX11_rounds_38 : decode cX11_rounds 38 = .ok (.aload_n 0, 1) := by decide +kernel
theorem dX11_rounds_39 : decode cX11_rounds 39 = .ok (.getfield 23, 3) := by decide +kernel
theorem dX11_rounds_42 : decode cX11_rounds 42 = .ok (.iconst 0, 1) := by decide +kernel
theorem dX11_rounds_43 : decode cX11_rounds 43 = .ok (.iaload, 1) := by decide +kernel
theorem dX11_rounds_44 : decode cX11_rounds 44 = .ok (.if_icmp .ge 51, 3) := by decide +kernel
theorem dX11_rounds_47 : decode cX11_rounds 47 = .ok (.iload_n 2, 1) := by decide +kernel
theorem dX11_rounds_48 : decode cX11_rounds 48 = .ok (.iload 5, 2) := by decide +kernel
theorem dX11_rounds_50 : decode cX11_rounds 50 = .ok (.invokestatic 259, 3) := by decide +kernel
theorem dX11_rounds_53 : decode cX11_rounds 53 = .ok (.ifCond .eq 36, 3) := by decide +kernel
theorem dX11_rounds_56 : decode cX11_rounds 56 = .ok (.aload_n 0, 1) := by decide +kernel
theorem dX11_rounds_57 : decode cX11_rounds 57 = .ok (.iload 5, 2) := by decide +kernel
theorem dX11_rounds_59 : decode cX11_rounds 59 = .ok (.iload_n 2, 1) := by decide +kernel
theorem dX11_rounds_60 : decode cX11_rounds 60 = .ok (.iconst 1, 1) := by decide +kernel
theorem dX11_rounds_61 : decode cX11_rounds 61 = .ok (.iload 5, 2) := by decide +kernel
theorem dX11_rounds_63 : decode cX11_rounds 63 = .ok (.ishl, 1) := by decide +kernel
theorem dX11_rounds_64 : decode cX11_rounds 64 = .ok (.iconst (-1), 1) := by decide +kernel
theorem dX11_rounds_65 : decode cX11_rounds 65 = .ok (.ixor, 1) := by decide +kernel
theorem dX11_rounds_66 : decode cX11_rounds 66 = .ok (.iand, 1) := by decide +kernel
theorem dX11_rounds_67 : decode cX11_rounds 67 = .ok (.iload_n 3, 1) := by decide +kernel
theorem dX11_rounds_68 : decode cX11_rounds 68 = .ok (.aload_n 0, 1) := by decide +kernel
theorem dX11_rounds_69 : decode cX11_rounds 69 = .ok (.iload_n 1, 1) := by decide +kernel
theorem dX11_rounds_70 : decode cX11_rounds 70 = .ok (.iload 5, 2) := by decide +kernel
theorem dX11_rounds_72 : decode cX11_rounds 72 = .ok (.invokevirtual 384, 3) := by decide +kernel
theorem dX11_rounds_75 : decode cX11_rounds 75 = .ok (.iadd, 1) := by decide +kernel
theorem dX11_rounds_76 : decode cX11_rounds 76 = .ok (.bipush 10, 2) := by decide +kernel
theorem dX11_rounds_78 : decode cX11_rounds 78 = .ok (.iload 4, 2) := by decide +kernel
theorem dX11_rounds_80 : decode cX11_rounds 80 = .ok (.imul, 1) := by decide +kernel
theorem dX11_rounds_81 : decode cX11_rounds 81 = .ok (.iload 5, 2) := by decide +kernel
theorem dX11_rounds_83 : decode cX11_rounds 83 = .ok (.iadd, 1) := by decide +kernel
theorem dX11_rounds_84 : decode cX11_rounds 84 = .ok (.iconst 1, 1) := by decide +kernel
theorem dX11_rounds_85 : decode cX11_rounds 85 = .ok (.iadd, 1) := by decide +kernel
theorem dX11_rounds_86 : decode cX11_rounds 86 = .ok (.invokevirtual 387, 3) := by decide +kernel
theorem dX11_rounds_89 : decode cX11_rounds 89 = .ok (.iinc 5 1, 3) := by decide +kernel
theorem dX11_rounds_92 : decode cX11_rounds 92 = .ok (.goto (-56), 3) := by decide +kernel
theorem dX11_rounds_95 : decode cX11_rounds 95 = .ok (.return_, 1) := by decide +kernel
theorem dX11_areOrders_0 : decode cX11_areOrders 0 = .ok (.iload_n 1, 1) := by decide +kernel
theorem dX11_areOrders_1 : decode cX11_areOrders 1 = .ok (.iconst 0, 1) := by decide +kernel
theorem dX11_areOrders_2 : decode cX11_areOrders 2 = .ok (.iconst 1, 1) := by decide +kernel
theorem dX11_areOrders_3 : decode cX11_areOrders 3 = .ok (.aload_n 0, 1) := by decide +kernel
theorem dX11_areOrders_4 : decode cX11_areOrders 4 = .ok (.getfield 23, 3) := by decide +kernel
theorem dX11_areOrders_7 : decode cX11_areOrders 7 = .ok (.iconst 1, 1) := by decide +kernel
theorem dX11_areOrders_8 : decode cX11_areOrders 8 = .ok (.iaload, 1) := by decide +kernel
theorem dX11_areOrders_9 : decode cX11_areOrders 9 = .ok (.ishl, 1) := by decide +kernel
theorem dX11_areOrders_10 : decode cX11_areOrders 10 = .ok (.iconst 1, 1) := by decide +kernel
theorem dX11_areOrders_11 : decode cX11_areOrders 11 = .ok (.isub, 1) := by decide +kernel
theorem dX11_areOrders_12 : decode cX11_areOrders 12 = .ok (.invokestatic 119, 3) := by decide +kernel
theorem dX11_areOrders_15 : decode cX11_areOrders 15 = .ok (.ireturn, 1) := by decide +kernel
theorem dX11_panesOf_0 : decode cX11_panesOf 0 = .ok (.iconst 0, 1) := by decide +kernel
theorem dX11_panesOf_1 : decode cX11_panesOf 1 = .ok (.istore_n 2, 1) := by decide +kernel
theorem dX11_panesOf_2 : decode cX11_panesOf 2 = .ok (.iconst 0, 1) := by decide +kernel
theorem dX11_panesOf_3 : decode cX11_panesOf 3 = .ok (.istore_n 3, 1) := by decide +kernel
theorem dX11_panesOf_4 : decode cX11_panesOf 4 = .ok (.iload_n 3, 1) := by decide +kernel
theorem dX11_panesOf_5 : decode cX11_panesOf 5 = .ok (.aload_n 0, 1) := by decide +kernel
theorem dX11_panesOf_6 : decode cX11_panesOf 6 = .ok (.getfield 23, 3) := by decide +kernel
theorem dX11_panesOf_9 : decode cX11_panesOf 9 = .ok (.iconst 1, 1) := by decide +kernel
theorem dX11_panesOf_10 : decode cX11_panesOf 10 = .ok (.iaload, 1) := by decide +kernel
theorem dX11_panesOf_11 : decode cX11_panesOf 11 = .ok (.if_icmp .ge 34, 3) := by decide +kernel
theorem dX11_panesOf_14 : decode cX11_panesOf 14 = .ok (.iload_n 2, 1) := by decide +kernel
theorem dX11_panesOf_15 : decode cX11_panesOf 15 = .ok (.iload_n 1, 1) := by decide +kernel
theorem dX11_panesOf_16 : decode cX11_panesOf 16 = .ok (.iload_n 3, 1) := by decide +kernel
theorem dX11_panesOf_17 : decode cX11_panesOf 17 = .ok (.invokestatic 259, 3) := by decide +kernel
theorem dX11_panesOf_20 : decode cX11_panesOf 20 = .ok (.ifCond .eq 16, 3) := by decide +kernel
theorem dX11_panesOf_23 : decode cX11_panesOf 23 = .ok (.iconst 1, 1) := by decide +kernel
theorem dX11_panesOf_24 : decode cX11_panesOf 24 = .ok (.aload_n 0, 1) := by decide +kernel
theorem dX11_panesOf_25 : decode cX11_panesOf 25 = .ok (.getfield 43, 3) := by decide +kernel
theorem dX11_panesOf_28 : decode cX11_panesOf 28 = .ok (.iload_n 3, 1) := by decide +kernel
theorem dX11_panesOf_29 : decode cX11_panesOf 29 = .ok (.aaload, 1) := by decide +kernel
theorem dX11_panesOf_30 : decode cX11_panesOf 30 = .ok (.iconst 0, 1) := by decide +kernel
theorem dX11_panesOf_31 : decode cX11_panesOf 31 = .ok (.iaload, 1) := by decide +kernel
theorem dX11_panesOf_32 : decode cX11_panesOf 32 = .ok (.ishl, 1) := by decide +kernel
theorem dX11_panesOf_33 : decode cX11_panesOf 33 = .ok (.goto 4, 3) := by decide +kernel
theorem dX11_panesOf_36 : decode cX11_panesOf 36 = .ok (.iconst 0, 1) := by decide +kernel
theorem dX11_panesOf_37 : decode cX11_panesOf 37 = .ok (.ior, 1) := by decide +kernel
theorem dX11_panesOf_38 : decode cX11_panesOf 38 = .ok (.istore_n 2, 1) := by decide +kernel
theorem dX11_panesOf_39 : decode cX11_panesOf 39 = .ok (.iinc 3 1, 3) := by decide +kernel
theorem dX11_panesOf_42 : decode cX11_panesOf 42 = .ok (.goto (-38), 3) := by decide +kernel
theorem dX11_panesOf_45 : decode cX11_panesOf 45 = .ok (.iload_n 2, 1) := by decide +kernel
theorem dX11_panesOf_46 : decode cX11_panesOf 46 = .ok (.ireturn, 1) := by decide +kernel
theorem dX11_round_0 : decode cX11_round 0 = .ok (.aload_n 0, 1) := by decide +kernel
theorem dX11_round_1 : decode cX11_round 1 = .ok (.iconst 0, 1) := by decide +kernel
theorem dX11_round_2 : decode cX11_round 2 = .ok (.putfield 85, 3) := by decide +kernel
theorem dX11_round_5 : decode cX11_round 5 = .ok (.aload_n 0, 1) := by decide +kernel
theorem dX11_round_6 : decode cX11_round 6 = .ok (.aload_n 0, 1) := by decide +kernel
theorem dX11_round_7 : decode cX11_round 7 = .ok (.iload_n 1, 1) := by decide +kernel
theorem dX11_round_8 : decode cX11_round 8 = .ok (.invokevirtual 391, 3) := by decide +kernel
theorem dX11_round_11 : decode cX11_round 11 = .ok (.ifCond .eq 12, 3) := by decide +kernel
theorem dX11_round_14 : decode cX11_round 14 = .ok (.iload_n 2, 1) := by decide +kernel
theorem dX11_round_15 : decode cX11_round 15 = .ok (.iconst 0, 1) := by decide +kernel
theorem dX11_round_16 : decode cX11_round 16 = .ok (.iconst 1, 1) := by decide +kernel
theorem dX11_round_17 : decode cX11_round 17 = .ok (.invokestatic 119, 3) := by decide +kernel
theorem dX11_round_20 : decode cX11_round 20 = .ok (.ifCond .ne 7, 3) := by decide +kernel
theorem dX11_round_23 : decode cX11_round 23 = .ok (.iconst 1, 1) := by decide +kernel
theorem dX11_round_24 : decode cX11_round 24 = .ok (.goto 4, 3) := by decide +kernel
theorem dX11_round_27 : decode cX11_round 27 = .ok (.iconst 0, 1) := by decide +kernel
theorem dX11_round_28 : decode cX11_round 28 = .ok (.iconst 1, 1) := by decide +kernel
theorem dX11_round_29 : decode cX11_round 29 = .ok (.iconst 2, 1) := by decide +kernel
theorem dX11_round_30 : decode cX11_round 30 = .ok (.invokevirtual 158, 3) := by decide +kernel
theorem dX11_round_33 : decode cX11_round 33 = .ok (.ifCond .eq 5, 3) := by decide +kernel
theorem dX11_round_36 : decode cX11_round 36 = .ok (.iconst 0, 1) := by decide +kernel
theorem dX11_round_37 : decode cX11_round 37 = .ok (.ireturn, 1) := by decide +kernel
theorem dX11_round_38 : decode cX11_round 38 = .ok (.aload_n 0, 1) := by decide +kernel
theorem dX11_round_39 : decode cX11_round 39 = .ok (.iconst (-1), 1) := by decide +kernel
theorem dX11_round_40 : decode cX11_round 40 = .ok (.putfield 378, 3) := by decide +kernel
theorem dX11_round_43 : decode cX11_round 43 = .ok (.aload_n 0, 1) := by decide +kernel
theorem dX11_round_44 : decode cX11_round 44 = .ok (.iconst (-1), 1) := by decide +kernel
theorem dX11_round_45 : decode cX11_round 45 = .ok (.aload_n 0, 1) := by decide +kernel
theorem dX11_round_46 : decode cX11_round 46 = .ok (.iload_n 1, 1) := by decide +kernel
theorem dX11_round_47 : decode cX11_round 47 = .ok (.invokevirtual 394, 3) := by decide +kernel
theorem dX11_round_50 : decode cX11_round 50 = .ok (.iconst 0, 1) := by decide +kernel
theorem dX11_round_51 : decode cX11_round 51 = .ok (.iconst 0, 1) := by decide +kernel
theorem dX11_round_52 : decode cX11_round 52 = .ok (.invokevirtual 387, 3) := by decide +kernel
theorem dX11_round_55 : decode cX11_round 55 = .ok (.iload_n 2, 1) := by decide +kernel
theorem dX11_round_56 : decode cX11_round 56 = .ok (.ifCond .ne 10, 3) := by decide +kernel
theorem dX11_round_59 : decode cX11_round 59 = .ok (.aload_n 0, 1) := by decide +kernel
theorem dX11_round_60 : decode cX11_round 60 = .ok (.getfield 378, 3) := by decide +kernel
theorem dX11_round_63 : decode cX11_round 63 = .ok (.goto 7, 3) := by decide +kernel
theorem dX11_round_66 : decode cX11_round 66 = .ok (.aload_n 0, 1) := by decide +kernel
theorem dX11_round_67 : decode cX11_round 67 = .ok (.getfield 381, 3) := by decide +kernel
theorem dX11_round_70 : decode cX11_round 70 = .ok (.ireturn, 1) := by decide +kernel
theorem dX11_isInTime_0 : decode cX11_isInTime 0 = .ok (.iload_n 2, 1) := by decide +kernel
theorem dX11_isInTime_1 : decode cX11_isInTime 1 = .ok (.ifCond .ne 5, 3) := by decide +kernel
theorem dX11_isInTime_4 : decode cX11_isInTime 4 = .ok (.iconst 1, 1) := by decide +kernel
theorem dX11_isInTime_5 : decode cX11_isInTime 5 = .ok (.ireturn, 1) := by decide +kernel
theorem dX11_isInTime_6 : decode cX11_isInTime 6 = .ok (.iconst 0, 1) := by decide +kernel
theorem dX11_isInTime_7 : decode cX11_isInTime 7 = .ok (.istore 6, 2) := by decide +kernel
theorem dX11_isInTime_9 : decode cX11_isInTime 9 = .ok (.iload 6, 2) := by decide +kernel
theorem dX11_isInTime_11 : decode cX11_isInTime 11 = .ok (.aload_n 0, 1) := by decide +kernel
theorem dX11_isInTime_12 : decode cX11_isInTime 12 = .ok (.getfield 23, 3) := by decide +kernel
theorem dX11_isInTime_15 : decode cX11_isInTime 15 = .ok (.iconst 0, 1) := by decide +kernel
theorem dX11_isInTime_16 : decode cX11_isInTime 16 = .ok (.iaload, 1) := by decide +kernel
theorem dX11_isInTime_17 : decode cX11_isInTime 17 = .ok (.if_icmp .ge 148, 3) := by decide +kernel
theorem dX11_isInTime_20 : decode cX11_isInTime 20 = .ok (.iload_n 2, 1) := by decide +kernel
theorem dX11_isInTime_21 : decode cX11_isInTime 21 = .ok (.iload 6, 2) := by decide +kernel
theorem dX11_isInTime_23 : decode cX11_isInTime 23 = .ok (.invokestatic 259, 3) := by decide +kernel
theorem dX11_isInTime_26 : decode cX11_isInTime 26 = .ok (.ifCond .ne 6, 3) := by decide +kernel
theorem dX11_isInTime_29 : decode cX11_isInTime 29 = .ok (.goto 130, 3) := by decide +kernel
theorem dX11_isInTime_32 : decode cX11_isInTime 32 = .ok (.iload 4, 2) := by decide +kernel
theorem dX11_isInTime_34 : decode cX11_isInTime 34 = .ok (.aload_n 0, 1) := by decide +kernel
theorem dX11_isInTime_35 : decode cX11_isInTime 35 = .ok (.iload_n 1, 1) := by decide +kernel
theorem dX11_isInTime_36 : decode cX11_isInTime 36 = .ok (.iload 6, 2) := by decide +kernel
theorem dX11_isInTime_38 : decode cX11_isInTime 38 = .ok (.invokevirtual 384, 3) := by decide +kernel
theorem dX11_isInTime_41 : decode cX11_isInTime 41 = .ok (.iadd, 1) := by decide +kernel
theorem dX11_isInTime_42 : decode cX11_isInTime 42 = .ok (.istore 7, 2) := by decide +kernel
theorem dX11_isInTime_44 : decode cX11_isInTime 44 = .ok (.iconst 1, 1) := by decide +kernel
theorem dX11_isInTime_45 : decode cX11_isInTime 45 = .ok (.istore 8, 2) := by decide +kernel
theorem dX11_isInTime_47 : decode cX11_isInTime 47 = .ok (.iconst 0, 1) := by decide +kernel
theorem dX11_isInTime_48 : decode cX11_isInTime 48 = .ok (.istore 9, 2) := by decide +kernel
theorem dX11_isInTime_50 : decode cX11_isInTime 50 = .ok (.iload 9, 2) := by decide +kernel
theorem dX11_isInTime_52 : decode cX11_isInTime 52 = .ok (.aload_n 0, 1) := by decide +kernel
theorem dX11_isInTime_53 : decode cX11_isInTime 53 = .ok (.getfield 23, 3) := by decide +kernel
theorem dX11_isInTime_56 : decode cX11_isInTime 56 = .ok (.iconst 1, 1) := by decide +kernel
theorem dX11_isInTime_57 : decode cX11_isInTime 57 = .ok (.iaload, 1) := by decide +kernel
theorem dX11_isInTime_58 : decode cX11_isInTime 58 = .ok (.if_icmp .ge 72, 3) := by decide +kernel
theorem dX11_isInTime_61 : decode cX11_isInTime 61 = .ok (.iload 8, 2) := by decide +kernel
theorem dX11_isInTime_63 : decode cX11_isInTime 63 = .ok (.ifCond .eq 58, 3) := by decide +kernel
theorem dX11_isInTime_66 : decode cX11_isInTime 66 = .ok (.iload_n 3, 1) := by decide +kernel
theorem dX11_isInTime_67 : decode cX11_isInTime 67 = .ok (.iload 9, 2) := by decide +kernel
theorem dX11_isInTime_69 : decode cX11_isInTime 69 = .ok (.invokestatic 259, 3) := by decide +kernel
theorem dX11_isInTime_72 : decode cX11_isInTime 72 = .ok (.ifCond .eq 45, 3) := by decide +kernel
theorem dX11_isInTime_75 : decode cX11_isInTime 75 = .ok (.aload_n 0, 1) := by decide +kernel
theorem dX11_isInTime_76 : decode cX11_isInTime 76 = .ok (.getfield 43, 3) := by decide +kernel
theorem dX11_isInTime_79 : decode cX11_isInTime 79 = .ok (.iload 9, 2) := by decide +kernel
theorem dX11_isInTime_81 : decode cX11_isInTime 81 = .ok (.aaload, 1) := by decide +kernel
theorem dX11_isInTime_82 : decode cX11_isInTime 82 = .ok (.iconst 0, 1) := by decide +kernel
theorem dX11_isInTime_83 : decode cX11_isInTime 83 = .ok (.iaload, 1) := by decide +kernel
theorem dX11_isInTime_84 : decode cX11_isInTime 84 = .ok (.iload 6, 2) := by decide +kernel
theorem dX11_isInTime_86 : decode cX11_isInTime 86 = .ok (.if_icmp .ne 31, 3) := by decide +kernel
theorem dX11_isInTime_89 : decode cX11_isInTime 89 = .ok (.iload 7, 2) := by decide +kernel
theorem dX11_isInTime_91 : decode cX11_isInTime 91 = .ok (.aload_n 0, 1) := by decide +kernel
theorem dX11_isInTime_92 : decode cX11_isInTime 92 = .ok (.getfield 43, 3) := by decide +kernel
theorem dX11_isInTime_95 : decode cX11_isInTime 95 = .ok (.iload 9, 2) := by decide +kernel
theorem dX11_isInTime_97 : decode cX11_isInTime 97 = .ok (.aaload, 1) := by decide +kernel
theorem dX11_isInTime_98 : decode cX11_isInTime 98 = .ok (.iconst 4, 1) := by decide +kernel
theorem dX11_isInTime_99 : decode cX11_isInTime 99 = .ok (.iaload, 1) := by decide +kernel
theorem dX11_isInTime_100 : decode cX11_isInTime 100 = .ok (.aload_n 0, 1) := by decide +kernel
theorem dX11_isInTime_101 : decode cX11_isInTime 101 = .ok (.getfield 67, 3) := by decide +kernel
theorem dX11_isInTime_104 : decode cX11_isInTime 104 = .ok (.sipush 2684, 3) := by decide +kernel
theorem dX11_isInTime_107 : decode cX11_isInTime 107 = .ok (.iaload, 1) := by decide +kernel
theorem dX11_isInTime_108 : decode cX11_isInTime 108 = .ok (.isub, 1) := by decide +kernel
theorem dX11_isInTime_109 : decode cX11_isInTime 109 = .ok (.iconst 1, 1) := by decide +kernel
theorem dX11_isInTime_110 : decode cX11_isInTime 110 = .ok (.iadd, 1) := by decide +kernel
theorem dX11_isInTime_111 : decode cX11_isInTime 111 = .ok (.iload 5, 2) := by decide +kernel
theorem dX11_isInTime_113 : decode cX11_isInTime 113 = .ok (.imul, 1) := by decide +kernel
theorem dX11_isInTime_114 : decode cX11_isInTime 114 = .ok (.if_icmp .gt 7, 3) := by decide +kernel
theorem dX11_isInTime_117 : decode cX11_isInTime 117 = .ok (.iconst 1, 1) := by decide +kernel
theorem dX11_isInTime_118 : decode cX11_isInTime 118 = .ok (.goto 4, 3) := by decide +kernel
theorem dX11_isInTime_121 : decode cX11_isInTime 121 = .ok (.iconst 0, 1) := by decide +kernel
theorem dX11_isInTime_122 : decode cX11_isInTime 122 = .ok (.istore 8, 2) := by decide +kernel
theorem dX11_isInTime_124 : decode cX11_isInTime 124 = .ok (.iinc 9 1, 3) := by decide +kernel
theorem dX11_isInTime_127 : decode cX11_isInTime 127 = .ok (.goto (-77), 3) := by decide +kernel
theorem dX11_isInTime_130 : decode cX11_isInTime 130 = .ok (.iload 8, 2) := by decide +kernel
theorem dX11_isInTime_132 : decode cX11_isInTime 132 = .ok (.ifCond .eq 27, 3) := by decide +kernel
theorem dX11_isInTime_135 : decode cX11_isInTime 135 = .ok (.aload_n 0, 1) := by decide +kernel
theorem dX11_isInTime_136 : decode cX11_isInTime 136 = .ok (.iload 6, 2) := by decide +kernel
theorem dX11_isInTime_138 : decode cX11_isInTime 138 = .ok (.iload_n 2, 1) := by decide +kernel
theorem dX11_isInTime_139 : decode cX11_isInTime 139 = .ok (.iconst 1, 1) := by decide +kernel
theorem dX11_isInTime_140 : decode cX11_isInTime 140 = .ok (.iload 6, 2) := by decide +kernel
theorem dX11_isInTime_142 : decode cX11_isInTime 142 = .ok (.ishl, 1) := by decide +kernel
theorem dX11_isInTime_143 : decode cX11_isInTime 143 = .ok (.iconst (-1), 1) := by decide +kernel
theorem dX11_isInTime_144 : decode cX11_isInTime 144 = .ok (.ixor, 1) := by decide +kernel
theorem dX11_isInTime_145 : decode cX11_isInTime 145 = .ok (.iand, 1) := by decide +kernel
theorem dX11_isInTime_146 : decode cX11_isInTime 146 = .ok (.iload_n 3, 1) := by decide +kernel
theorem dX11_isInTime_147 : decode cX11_isInTime 147 = .ok (.iload 7, 2) := by decide +kernel
theorem dX11_isInTime_149 : decode cX11_isInTime 149 = .ok (.iload 5, 2) := by decide +kernel
theorem dX11_isInTime_151 : decode cX11_isInTime 151 = .ok (.invokevirtual 397, 3) := by decide +kernel
theorem dX11_isInTime_154 : decode cX11_isInTime 154 = .ok (.ifCond .eq 5, 3) := by decide +kernel
theorem dX11_isInTime_157 : decode cX11_isInTime 157 = .ok (.iconst 1, 1) := by decide +kernel
theorem dX11_isInTime_158 : decode cX11_isInTime 158 = .ok (.ireturn, 1) := by decide +kernel
theorem dX11_isInTime_159 : decode cX11_isInTime 159 = .ok (.iinc 6 1, 3) := by decide +kernel
theorem dX11_isInTime_162 : decode cX11_isInTime 162 = .ok (.goto (-153), 3) := by decide +kernel
theorem dX11_isInTime_165 : decode cX11_isInTime 165 = .ok (.iconst 0, 1) := by decide +kernel
theorem dX11_isInTime_166 : decode cX11_isInTime 166 = .ok (.ireturn, 1) := by decide +kernel
theorem dX11_by_0 : decode cX11_by 0 = .ok (.aload_n 0, 1) := by decide +kernel
theorem dX11_by_1 : decode cX11_by 1 = .ok (.iconst 0, 1) := by decide +kernel
theorem dX11_by_2 : decode cX11_by 2 = .ok (.putfield 85, 3) := by decide +kernel
theorem dX11_by_5 : decode cX11_by 5 = .ok (.aload_n 0, 1) := by decide +kernel
theorem dX11_by_6 : decode cX11_by 6 = .ok (.aload_n 0, 1) := by decide +kernel
theorem dX11_by_7 : decode cX11_by 7 = .ok (.iload_n 1, 1) := by decide +kernel
theorem dX11_by_8 : decode cX11_by 8 = .ok (.invokevirtual 391, 3) := by decide +kernel
theorem dX11_by_11 : decode cX11_by 11 = .ok (.ifCond .eq 14, 3) := by decide +kernel
theorem dX11_by_14 : decode cX11_by 14 = .ok (.iload_n 2, 1) := by decide +kernel
theorem dX11_by_15 : decode cX11_by 15 = .ok (.iconst 1, 1) := by decide +kernel
theorem dX11_by_16 : decode cX11_by 16 = .ok (.sipush 999, 3) := by decide +kernel
theorem dX11_by_19 : decode cX11_by 19 = .ok (.invokestatic 119, 3) := by decide +kernel
theorem dX11_by_22 : decode cX11_by 22 = .ok (.ifCond .ne 7, 3) := by decide +kernel
theorem dX11_by_25 : decode cX11_by 25 = .ok (.iconst 1, 1) := by decide +kernel
theorem dX11_by_26 : decode cX11_by 26 = .ok (.goto 4, 3) := by decide +kernel
theorem dX11_by_29 : decode cX11_by 29 = .ok (.iconst 0, 1) := by decide +kernel
theorem dX11_by_30 : decode cX11_by 30 = .ok (.iconst 1, 1) := by decide +kernel
theorem dX11_by_31 : decode cX11_by 31 = .ok (.iconst 2, 1) := by decide +kernel
theorem dX11_by_32 : decode cX11_by 32 = .ok (.invokevirtual 158, 3) := by decide +kernel
theorem dX11_by_35 : decode cX11_by 35 = .ok (.ifCond .eq 5, 3) := by decide +kernel
theorem dX11_by_38 : decode cX11_by 38 = .ok (.iconst 0, 1) := by decide +kernel
theorem dX11_by_39 : decode cX11_by 39 = .ok (.ireturn, 1) := by decide +kernel
theorem dX11_by_40 : decode cX11_by 40 = .ok (.iconst 0, 1) := by decide +kernel
theorem dX11_by_41 : decode cX11_by 41 = .ok (.istore_n 3, 1) := by decide +kernel
theorem dX11_by_42 : decode cX11_by 42 = .ok (.iload_n 3, 1) := by decide +kernel
theorem dX11_by_43 : decode cX11_by 43 = .ok (.aload_n 0, 1) := by decide +kernel
theorem dX11_by_44 : decode cX11_by 44 = .ok (.getfield 23, 3) := by decide +kernel
theorem dX11_by_47 : decode cX11_by 47 = .ok (.iconst 1, 1) := by decide +kernel
theorem dX11_by_48 : decode cX11_by 48 = .ok (.iaload, 1) := by decide +kernel
theorem dX11_by_49 : decode cX11_by 49 = .ok (.if_icmp .ge 38, 3) := by decide +kernel
theorem dX11_by_52 : decode cX11_by 52 = .ok (.iload_n 1, 1) := by decide +kernel
theorem dX11_by_53 : decode cX11_by 53 = .ok (.iload_n 3, 1) := by decide +kernel
theorem dX11_by_54 : decode cX11_by 54 = .ok (.invokestatic 259, 3) := by decide +kernel
theorem dX11_by_57 : decode cX11_by 57 = .ok (.ifCond .eq 24, 3) := by decide +kernel
theorem dX11_by_60 : decode cX11_by 60 = .ok (.aload_n 0, 1) := by decide +kernel
theorem dX11_by_61 : decode cX11_by 61 = .ok (.getfield 43, 3) := by decide +kernel
theorem dX11_by_64 : decode cX11_by 64 = .ok (.iload_n 3, 1) := by decide +kernel
theorem dX11_by_65 : decode cX11_by 65 = .ok (.aaload, 1) := by decide +kernel
theorem dX11_by_66 : decode cX11_by 66 = .ok (.iconst 4, 1) := by decide +kernel
theorem dX11_by_67 : decode cX11_by 67 = .ok (.iaload, 1) := by decide +kernel
theorem dX11_by_68 : decode cX11_by 68 = .ok (.aload_n 0, 1) := by decide +kernel
theorem dX11_by_69 : decode cX11_by 69 = .ok (.getfield 67, 3) := by decide +kernel
theorem dX11_by_72 : decode cX11_by 72 = .ok (.sipush 2684, 3) := by decide +kernel
theorem dX11_by_75 : decode cX11_by 75 = .ok (.iaload, 1) := by decide +kernel
theorem dX11_by_76 : decode cX11_by 76 = .ok (.if_icmp .ge 5, 3) := by decide +kernel
theorem dX11_by_79 : decode cX11_by 79 = .ok (.iconst 0, 1) := by decide +kernel
theorem dX11_by_80 : decode cX11_by 80 = .ok (.ireturn, 1) := by decide +kernel
theorem dX11_by_81 : decode cX11_by 81 = .ok (.iinc 3 1, 3) := by decide +kernel
theorem dX11_by_84 : decode cX11_by 84 = .ok (.goto (-42), 3) := by decide +kernel
theorem dX11_by_87 : decode cX11_by 87 = .ok (.aload_n 0, 1) := by decide +kernel
theorem dX11_by_88 : decode cX11_by 88 = .ok (.iconst (-1), 1) := by decide +kernel
theorem dX11_by_89 : decode cX11_by 89 = .ok (.aload_n 0, 1) := by decide +kernel
theorem dX11_by_90 : decode cX11_by 90 = .ok (.iload_n 1, 1) := by decide +kernel
theorem dX11_by_91 : decode cX11_by 91 = .ok (.invokevirtual 394, 3) := by decide +kernel
theorem dX11_by_94 : decode cX11_by 94 = .ok (.iload_n 1, 1) := by decide +kernel
theorem dX11_by_95 : decode cX11_by 95 = .ok (.iconst 0, 1) := by decide +kernel
theorem dX11_by_96 : decode cX11_by 96 = .ok (.iload_n 2, 1) := by decide +kernel
theorem dX11_by_97 : decode cX11_by 97 = .ok (.invokevirtual 397, 3) := by decide +kernel
theorem dX11_by_100 : decode cX11_by 100 = .ok (.ireturn, 1) := by decide +kernel
theorem dX11_share_0 : decode cX11_share 0 = .ok (.aload_n 0, 1) := by decide +kernel
theorem dX11_share_1 : decode cX11_share 1 = .ok (.iconst 0, 1) := by decide +kernel
theorem dX11_share_2 : decode cX11_share 2 = .ok (.putfield 85, 3) := by decide +kernel
theorem dX11_share_5 : decode cX11_share 5 = .ok (.aload_n 0, 1) := by decide +kernel
theorem dX11_share_6 : decode cX11_share 6 = .ok (.iload_n 1, 1) := by decide +kernel
theorem dX11_share_7 : decode cX11_share 7 = .ok (.iload_n 2, 1) := by decide +kernel
theorem dX11_share_8 : decode cX11_share 8 = .ok (.iload_n 3, 1) := by decide +kernel
theorem dX11_share_9 : decode cX11_share 9 = .ok (.invokevirtual 318, 3) := by decide +kernel
theorem dX11_share_12 : decode cX11_share 12 = .ok (.ifCond .ne 29, 3) := by decide +kernel
theorem dX11_share_15 : decode cX11_share 15 = .ok (.aload_n 0, 1) := by decide +kernel
theorem dX11_share_16 : decode cX11_share 16 = .ok (.iload 4, 2) := by decide +kernel
theorem dX11_share_18 : decode cX11_share 18 = .ok (.iconst 0, 1) := by decide +kernel
theorem dX11_share_19 : decode cX11_share 19 = .ok (.sipush 9999, 3) := by decide +kernel
theorem dX11_share_22 : decode cX11_share 22 = .ok (.invokestatic 119, 3) := by decide +kernel
theorem dX11_share_25 : decode cX11_share 25 = .ok (.ifCond .ne 7, 3) := by decide +kernel
theorem dX11_share_28 : decode cX11_share 28 = .ok (.iconst 1, 1) := by decide +kernel
theorem dX11_share_29 : decode cX11_share 29 = .ok (.goto 4, 3) := by decide +kernel
theorem dX11_share_32 : decode cX11_share 32 = .ok (.iconst 0, 1) := by decide +kernel
theorem dX11_share_33 : decode cX11_share 33 = .ok (.iconst 3, 1) := by decide +kernel
theorem dX11_share_34 : decode cX11_share 34 = .ok (.iconst 2, 1) := by decide +kernel
theorem dX11_share_35 : decode cX11_share 35 = .ok (.invokevirtual 158, 3) := by decide +kernel
theorem dX11_share_38 : decode cX11_share 38 = .ok (.ifCond .eq 5, 3) := by decide +kernel
theorem dX11_share_41 : decode cX11_share 41 = .ok (.iconst 0, 1) := by decide +kernel
theorem dX11_share_42 : decode cX11_share 42 = .ok (.ireturn, 1) := by decide +kernel
theorem dX11_share_43 : decode cX11_share 43 = .ok (.aload_n 0, 1) := by decide +kernel
theorem dX11_share_44 : decode cX11_share 44 = .ok (.getfield 67, 3) := by decide +kernel
theorem dX11_share_47 : decode cX11_share 47 = .ok (.iload_n 1, 1) := by decide +kernel
theorem dX11_share_48 : decode cX11_share 48 = .ok (.invokestatic 240, 3) := by decide +kernel
theorem dX11_share_51 : decode cX11_share 51 = .ok (.istore 5, 2) := by decide +kernel
theorem dX11_share_53 : decode cX11_share 53 = .ok (.iload 4, 2) := by decide +kernel
theorem dX11_share_55 : decode cX11_share 55 = .ok (.istore 6, 2) := by decide +kernel
theorem dX11_share_57 : decode cX11_share 57 = .ok (.iconst (-1), 1) := by decide +kernel
theorem dX11_share_58 : decode cX11_share 58 = .ok (.istore 7, 2) := by decide +kernel
theorem dX11_share_60 : decode cX11_share 60 = .ok (.iload 5, 2) := by decide +kernel
theorem dX11_share_62 : decode cX11_share 62 = .ok (.ifCond .ne 5, 3) := by decide +kernel
theorem dX11_share_65 : decode cX11_share 65 = .ok (.iconst 0, 1) := by decide +kernel
theorem dX11_share_66 : decode cX11_share 66 = .ok (.ireturn, 1) := by decide +kernel
theorem dX11_share_67 : decode cX11_share 67 = .ok (.iconst 0, 1) := by decide +kernel
theorem dX11_share_68 : decode cX11_share 68 = .ok (.istore 8, 2) := by decide +kernel
theorem dX11_share_70 : decode cX11_share 70 = .ok (.iload 8, 2) := by decide +kernel
theorem dX11_share_72 : decode cX11_share 72 = .ok (.bipush 16, 2) := by decide +kernel
theorem dX11_share_74 : decode cX11_share 74 = .ok (.if_icmp .ge 86, 3) := by decide +kernel
theorem dX11_share_77 : decode cX11_share 77 = .ok (.iload 6, 2) := by decide +kernel
theorem dX11_share_79 : decode cX11_share 79 = .ok (.iload 4, 2) := by decide +kernel
theorem dX11_share_81 : decode cX11_share 81 = .ok (.aload_n 0, 1) := by decide +kernel
theorem dX11_share_82 : decode cX11_share 82 = .ok (.getfield 67, 3) := by decide +kernel
theorem dX11_share_85 : decode cX11_share 85 = .ok (.sipush 2400, 3) := by decide +kernel
theorem dX11_share_88 : decode cX11_share 88 = .ok (.bipush 16, 2) := by decide +kernel
theorem dX11_share_90 : decode cX11_share 90 = .ok (.iload_n 1, 1) := by decide +kernel
theorem dX11_share_91 : decode cX11_share 91 = .ok (.imul, 1) := by decide +kernel
theorem dX11_share_92 : decode cX11_share 92 = .ok (.iadd, 1) := by decide +kernel
theorem dX11_share_93 : decode cX11_share 93 = .ok (.iload 8, 2) := by decide +kernel
theorem dX11_share_95 : decode cX11_share 95 = .ok (.iadd, 1) := by decide +kernel
theorem dX11_share_96 : decode cX11_share 96 = .ok (.iaload, 1) := by decide +kernel
theorem dX11_share_97 : decode cX11_share 97 = .ok (.imul, 1) := by decide +kernel
theorem dX11_share_98 : decode cX11_share 98 = .ok (.iload 5, 2) := by decide +kernel
theorem dX11_share_100 : decode cX11_share 100 = .ok (.idiv, 1) := by decide +kernel
theorem dX11_share_101 : decode cX11_share 101 = .ok (.isub, 1) := by decide +kernel
theorem dX11_share_102 : decode cX11_share 102 = .ok (.istore 6, 2) := by decide +kernel
theorem dX11_share_104 : decode cX11_share 104 = .ok (.iload 7, 2) := by decide +kernel
theorem dX11_share_106 : decode cX11_share 106 = .ok (.iconst (-1), 1) := by decide +kernel
theorem dX11_share_107 : decode cX11_share 107 = .ok (.if_icmp .eq 38, 3) := by decide +kernel
theorem dX11_share_110 : decode cX11_share 110 = .ok (.aload_n 0, 1) := by decide +kernel
theorem dX11_share_111 : decode cX11_share 111 = .ok (.getfield 67, 3) := by decide +kernel
theorem dX11_share_114 : decode cX11_share 114 = .ok (.sipush 2400, 3) := by decide +kernel
theorem dX11_share_117 : decode cX11_share 117 = .ok (.bipush 16, 2) := by decide +kernel
theorem dX11_share_119 : decode cX11_share 119 = .ok (.iload_n 1, 1) := by decide +kernel
theorem dX11_share_120 : decode cX11_share 120 = .ok (.imul, 1) := by decide +kernel
theorem dX11_share_121 : decode cX11_share 121 = .ok (.iadd, 1) := by decide +kernel
theorem dX11_share_122 : decode cX11_share 122 = .ok (.iload 8, 2) := by decide +kernel
theorem dX11_share_124 : decode cX11_share 124 = .ok (.iadd, 1) := by decide +kernel
theorem dX11_share_125 : decode cX11_share 125 = .ok (.iaload, 1) := by decide +kernel
theorem dX11_share_126 : decode cX11_share 126 = .ok (.aload_n 0, 1) := by decide +kernel
theorem dX11_share_127 : decode cX11_share 127 = .ok (.getfield 67, 3) := by decide +kernel
theorem dX11_share_130 : decode cX11_share 130 = .ok (.sipush 2400, 3) := by decide +kernel
theorem dX11_share_133 : decode cX11_share 133 = .ok (.bipush 16, 2) := by decide +kernel
theorem dX11_share_135 : decode cX11_share 135 = .ok (.iload_n 1, 1) := by decide +kernel
theorem dX11_share_136 : decode cX11_share 136 = .ok (.imul, 1) := by decide +kernel
theorem dX11_share_137 : decode cX11_share 137 = .ok (.iadd, 1) := by decide +kernel
theorem dX11_share_138 : decode cX11_share 138 = .ok (.iload 7, 2) := by decide +kernel
theorem dX11_share_140 : decode cX11_share 140 = .ok (.iadd, 1) := by decide +kernel
theorem dX11_share_141 : decode cX11_share 141 = .ok (.iaload, 1) := by decide +kernel
theorem dX11_share_142 : decode cX11_share 142 = .ok (.if_icmp .le 8, 3) := by decide +kernel
theorem dX11_share_145 : decode cX11_share 145 = .ok (.iload 8, 2) := by decide +kernel
theorem dX11_share_147 : decode cX11_share 147 = .ok (.goto 5, 3) := by decide +kernel
theorem dX11_share_150 : decode cX11_share 150 = .ok (.iload 7, 2) := by decide +kernel
theorem dX11_share_152 : decode cX11_share 152 = .ok (.istore 7, 2) := by decide +kernel
theorem dX11_share_154 : decode cX11_share 154 = .ok (.iinc 8 1, 3) := by decide +kernel
theorem dX11_share_157 : decode cX11_share 157 = .ok (.goto (-87), 3) := by decide +kernel
theorem dX11_share_160 : decode cX11_share 160 = .ok (.iload 4, 2) := by decide +kernel
theorem dX11_share_162 : decode cX11_share 162 = .ok (.aload_n 0, 1) := by decide +kernel
theorem dX11_share_163 : decode cX11_share 163 = .ok (.getfield 67, 3) := by decide +kernel
theorem dX11_share_166 : decode cX11_share 166 = .ok (.sipush 2400, 3) := by decide +kernel
theorem dX11_share_169 : decode cX11_share 169 = .ok (.iload_n 1, 1) := by decide +kernel
theorem dX11_share_170 : decode cX11_share 170 = .ok (.iload_n 2, 1) := by decide +kernel
theorem dX11_share_171 : decode cX11_share 171 = .ok (.iload_n 3, 1) := by decide +kernel
theorem dX11_share_172 : decode cX11_share 172 = .ok (.invokestatic 321, 3) := by decide +kernel
theorem dX11_share_175 : decode cX11_share 175 = .ok (.iadd, 1) := by decide +kernel
theorem dX11_share_176 : decode cX11_share 176 = .ok (.iaload, 1) := by decide +kernel
theorem dX11_share_177 : decode cX11_share 177 = .ok (.imul, 1) := by decide +kernel
theorem dX11_share_178 : decode cX11_share 178 = .ok (.iload 5, 2) := by decide +kernel
theorem dX11_share_180 : decode cX11_share 180 = .ok (.idiv, 1) := by decide +kernel
theorem dX11_share_181 : decode cX11_share 181 = .ok (.iload 7, 2) := by decide +kernel
theorem dX11_share_183 : decode cX11_share 183 = .ok (.iconst 4, 1) := by decide +kernel
theorem dX11_share_184 : decode cX11_share 184 = .ok (.iload_n 3, 1) := by decide +kernel
theorem dX11_share_185 : decode cX11_share 185 = .ok (.imul, 1) := by decide +kernel
theorem dX11_share_186 : decode cX11_share 186 = .ok (.iload_n 2, 1) := by decide +kernel
theorem dX11_share_187 : decode cX11_share 187 = .ok (.iadd, 1) := by decide +kernel
theorem dX11_share_188 : decode cX11_share 188 = .ok (.if_icmp .ne 8, 3) := by decide +kernel
theorem dX11_share_191 : decode cX11_share 191 = .ok (.iload 6, 2) := by decide +kernel
theorem dX11_share_193 : decode cX11_share 193 = .ok (.goto 4, 3) := by decide +kernel
theorem dX11_share_196 : decode cX11_share 196 = .ok (.iconst 0, 1) := by decide +kernel
theorem dX11_share_197 : decode cX11_share 197 = .ok (.iadd, 1) := by decide +kernel
theorem dX11_share_198 : decode cX11_share 198 = .ok (.ireturn, 1) := by decide +kernel
theorem dX11_ahead_0 : decode cX11_ahead 0 = .ok (.aload_n 0, 1) := by decide +kernel
theorem dX11_ahead_1 : decode cX11_ahead 1 = .ok (.iconst 0, 1) := by decide +kernel
theorem dX11_ahead_2 : decode cX11_ahead 2 = .ok (.putfield 85, 3) := by decide +kernel
theorem dX11_ahead_5 : decode cX11_ahead 5 = .ok (.aload_n 0, 1) := by decide +kernel
theorem dX11_ahead_6 : decode cX11_ahead 6 = .ok (.aload_n 0, 1) := by decide +kernel
theorem dX11_ahead_7 : decode cX11_ahead 7 = .ok (.iload_n 1, 1) := by decide +kernel
theorem dX11_ahead_8 : decode cX11_ahead 8 = .ok (.invokevirtual 315, 3) := by decide +kernel
theorem dX11_ahead_11 : decode cX11_ahead 11 = .ok (.ifCond .ne 7, 3) := by decide +kernel
theorem dX11_ahead_14 : decode cX11_ahead 14 = .ok (.iconst 1, 1) := by decide +kernel
theorem dX11_ahead_15 : decode cX11_ahead 15 = .ok (.goto 4, 3) := by decide +kernel
theorem dX11_ahead_18 : decode cX11_ahead 18 = .ok (.iconst 0, 1) := by decide +kernel
theorem dX11_ahead_19 : decode cX11_ahead 19 = .ok (.iconst 1, 1) := by decide +kernel
theorem dX11_ahead_20 : decode cX11_ahead 20 = .ok (.iconst 1, 1) := by decide +kernel
theorem dX11_ahead_21 : decode cX11_ahead 21 = .ok (.invokevirtual 158, 3) := by decide +kernel
theorem dX11_ahead_24 : decode cX11_ahead 24 = .ok (.ifCond .ne 36, 3) := by decide +kernel
theorem dX11_ahead_27 : decode cX11_ahead 27 = .ok (.aload_n 0, 1) := by decide +kernel
theorem dX11_ahead_28 : decode cX11_ahead 28 = .ok (.iload_n 2, 1) := by decide +kernel
theorem dX11_ahead_29 : decode cX11_ahead 29 = .ok (.iconst 0, 1) := by decide +kernel
theorem dX11_ahead_30 : decode cX11_ahead 30 = .ok (.bipush 60, 2) := by decide +kernel
theorem dX11_ahead_32 : decode cX11_ahead 32 = .ok (.invokestatic 119, 3) := by decide +kernel
theorem dX11_ahead_35 : decode cX11_ahead 35 = .ok (.ifCond .eq 12, 3) := by decide +kernel
theorem dX11_ahead_38 : decode cX11_ahead 38 = .ok (.iload_n 3, 1) := by decide +kernel
theorem dX11_ahead_39 : decode cX11_ahead 39 = .ok (.iconst 0, 1) := by decide +kernel
theorem dX11_ahead_40 : decode cX11_ahead 40 = .ok (.iconst 2, 1) := by decide +kernel
theorem dX11_ahead_41 : decode cX11_ahead 41 = .ok (.invokestatic 119, 3) := by decide +kernel
theorem dX11_ahead_44 : decode cX11_ahead 44 = .ok (.ifCond .ne 7, 3) := by decide +kernel
theorem dX11_ahead_47 : decode cX11_ahead 47 = .ok (.iconst 1, 1) := by decide +kernel
theorem dX11_ahead_48 : decode cX11_ahead 48 = .ok (.goto 4, 3) := by decide +kernel
theorem dX11_ahead_51 : decode cX11_ahead 51 = .ok (.iconst 0, 1) := by decide +kernel
theorem dX11_ahead_52 : decode cX11_ahead 52 = .ok (.iconst 2, 1) := by decide +kernel
theorem dX11_ahead_53 : decode cX11_ahead 53 = .ok (.iconst 2, 1) := by decide +kernel
theorem dX11_ahead_54 : decode cX11_ahead 54 = .ok (.invokevirtual 158, 3) := by decide +kernel
theorem dX11_ahead_57 : decode cX11_ahead 57 = .ok (.ifCond .eq 5, 3) := by decide +kernel
theorem dX11_ahead_60 : decode cX11_ahead 60 = .ok (.iconst 0, 1) := by decide +kernel
theorem dX11_ahead_61 : decode cX11_ahead 61 = .ok (.ireturn, 1) := by decide +kernel
theorem dX11_ahead_62 : decode cX11_ahead 62 = .ok (.aload_n 0, 1) := by decide +kernel
theorem dX11_ahead_63 : decode cX11_ahead 63 = .ok (.getfield 67, 3) := by decide +kernel
theorem dX11_ahead_66 : decode cX11_ahead 66 = .ok (.aload_n 0, 1) := by decide +kernel
theorem dX11_ahead_67 : decode cX11_ahead 67 = .ok (.getfield 70, 3) := by decide +kernel
theorem dX11_ahead_70 : decode cX11_ahead 70 = .ok (.invokestatic 308, 3) := by decide +kernel
theorem dX11_ahead_73 : decode cX11_ahead 73 = .ok (.iconst 0, 1) := by decide +kernel
theorem dX11_ahead_74 : decode cX11_ahead 74 = .ok (.istore 4, 2) := by decide +kernel
theorem dX11_ahead_76 : decode cX11_ahead 76 = .ok (.iload 4, 2) := by decide +kernel
theorem dX11_ahead_78 : decode cX11_ahead 78 = .ok (.iload_n 2, 1) := by decide +kernel
theorem dX11_ahead_79 : decode cX11_ahead 79 = .ok (.if_icmp .ge 18, 3) := by decide +kernel
theorem dX11_ahead_82 : decode cX11_ahead 82 = .ok (.aload_n 0, 1) := by decide +kernel
theorem dX11_ahead_83 : decode cX11_ahead 83 = .ok (.aload_n 0, 1) := by decide +kernel
theorem dX11_ahead_84 : decode cX11_ahead 84 = .ok (.getfield 70, 3) := by decide +kernel
theorem dX11_ahead_87 : decode cX11_ahead 87 = .ok (.invokevirtual 284, 3) := by decide +kernel
theorem dX11_ahead_90 : decode cX11_ahead 90 = .ok (.pop, 1) := by decide +kernel
theorem dX11_ahead_91 : decode cX11_ahead 91 = .ok (.iinc 4 1, 3) := by decide +kernel
theorem dX11_ahead_94 : decode cX11_ahead 94 = .ok (.goto (-18), 3) := by decide +kernel
theorem dX11_ahead_97 : decode cX11_ahead 97 = .ok (.iload_n 3, 1) := by decide +kernel
theorem dX11_ahead_98 : decode cX11_ahead 98 = .ok (.ifCond .ne 14, 3) := by decide +kernel
theorem dX11_ahead_101 : decode cX11_ahead 101 = .ok (.aload_n 0, 1) := by decide +kernel
theorem dX11_ahead_102 : decode cX11_ahead 102 = .ok (.getfield 70, 3) := by decide +kernel
theorem dX11_ahead_105 : decode cX11_ahead 105 = .ok (.iload_n 1, 1) := by decide +kernel
theorem dX11_ahead_106 : decode cX11_ahead 106 = .ok (.invokestatic 240, 3) := by decide +kernel
theorem dX11_ahead_109 : decode cX11_ahead 109 = .ok (.goto 28, 3) := by decide +kernel
theorem dX11_ahead_112 : decode cX11_ahead 112 = .ok (.iload_n 3, 1) := by decide +kernel
theorem dX11_ahead_113 : decode cX11_ahead 113 = .ok (.iconst 1, 1) := by decide +kernel
theorem dX11_ahead_114 : decode cX11_ahead 114 = .ok (.if_icmp .ne 15, 3) := by decide +kernel
theorem dX11_ahead_117 : decode cX11_ahead 117 = .ok (.aload_n 0, 1) := by decide +kernel
theorem dX11_ahead_118 : decode cX11_ahead 118 = .ok (.aload_n 0, 1) := by decide +kernel
theorem dX11_ahead_119 : decode cX11_ahead 119 = .ok (.getfield 70, 3) := by decide +kernel
theorem dX11_ahead_122 : decode cX11_ahead 122 = .ok (.iload_n 1, 1) := by decide +kernel
theorem dX11_ahead_123 : decode cX11_ahead 123 = .ok (.invokevirtual 348, 3) := by decide +kernel
theorem dX11_ahead_126 : decode cX11_ahead 126 = .ok (.goto 11, 3) := by decide +kernel
theorem dX11_ahead_129 : decode cX11_ahead 129 = .ok (.aload_n 0, 1) := by decide +kernel
theorem dX11_ahead_130 : decode cX11_ahead 130 = .ok (.getfield 70, 3) := by decide +kernel
theorem dX11_ahead_133 : decode cX11_ahead 133 = .ok (.iload_n 1, 1) := by decide +kernel
theorem dX11_ahead_134 : decode cX11_ahead 134 = .ok (.invokestatic 351, 3) := by decide +kernel
theorem dX11_ahead_137 : decode cX11_ahead 137 = .ok (.ireturn, 1) := by decide +kernel
theorem dX11_decades_0 : decode cX11_decades 0 = .ok (.aload_n 0, 1) := by decide +kernel
theorem dX11_decades_1 : decode cX11_decades 1 = .ok (.getfield 67, 3) := by decide +kernel
theorem dX11_decades_4 : decode cX11_decades 4 = .ok (.aload_n 0, 1) := by decide +kernel
theorem dX11_decades_5 : decode cX11_decades 5 = .ok (.getfield 70, 3) := by decide +kernel
theorem dX11_decades_8 : decode cX11_decades 8 = .ok (.invokestatic 308, 3) := by decide +kernel
theorem dX11_decades_11 : decode cX11_decades 11 = .ok (.aload_n 0, 1) := by decide +kernel
theorem dX11_decades_12 : decode cX11_decades 12 = .ok (.iload_n 1, 1) := by decide +kernel
theorem dX11_decades_13 : decode cX11_decades 13 = .ok (.putfield 401, 3) := by decide +kernel
theorem dX11_decades_16 : decode cX11_decades 16 = .ok (.iconst 0, 1) := by decide +kernel
theorem dX11_decades_17 : decode cX11_decades 17 = .ok (.istore 4, 2) := by decide +kernel
theorem dX11_decades_19 : decode cX11_decades 19 = .ok (.iload 4, 2) := by decide +kernel
theorem dX11_decades_21 : decode cX11_decades 21 = .ok (.iload_n 3, 1) := by decide +kernel
theorem dX11_decades_22 : decode cX11_decades 22 = .ok (.if_icmp .ge 97, 3) := by decide +kernel
theorem dX11_decades_25 : decode cX11_decades 25 = .ok (.iconst 0, 1) := by decide +kernel
theorem dX11_decades_26 : decode cX11_decades 26 = .ok (.istore 5, 2) := by decide +kernel
theorem dX11_decades_28 : decode cX11_decades 28 = .ok (.iload 5, 2) := by decide +kernel
theorem dX11_decades_30 : decode cX11_decades 30 = .ok (.aload_n 0, 1) := by decide +kernel
theorem dX11_decades_31 : decode cX11_decades 31 = .ok (.getfield 23, 3) := by decide +kernel
theorem dX11_decades_34 : decode cX11_decades 34 = .ok (.iconst 0, 1) := by decide +kernel
theorem dX11_decades_35 : decode cX11_decades 35 = .ok (.iaload, 1) := by decide +kernel
theorem dX11_decades_36 : decode cX11_decades 36 = .ok (.if_icmp .ge 68, 3) := by decide +kernel
theorem dX11_decades_39 : decode cX11_decades 39 = .ok (.aload_n 0, 1) := by decide +kernel
theorem dX11_decades_40 : decode cX11_decades 40 = .ok (.getfield 70, 3) := by decide +kernel
theorem dX11_decades_43 : decode cX11_decades 43 = .ok (.sipush 2681, 3) := by decide +kernel
theorem dX11_decades_46 : decode cX11_decades 46 = .ok (.iaload, 1) := by decide +kernel
theorem dX11_decades_47 : decode cX11_decades 47 = .ok (.iload 5, 2) := by decide +kernel
theorem dX11_decades_49 : decode cX11_decades 49 = .ok (.invokestatic 259, 3) := by decide +kernel
theorem dX11_decades_52 : decode cX11_decades 52 = .ok (.ifCond .eq 6, 3) := by decide +kernel
theorem dX11_decades_55 : decode cX11_decades 55 = .ok (.goto 43, 3) := by decide +kernel
theorem dX11_decades_58 : decode cX11_decades 58 = .ok (.aload_n 0, 1) := by decide +kernel
theorem dX11_decades_59 : decode cX11_decades 59 = .ok (.aload_n 0, 1) := by decide +kernel
theorem dX11_decades_60 : decode cX11_decades 60 = .ok (.getfield 401, 3) := by decide +kernel
theorem dX11_decades_63 : decode cX11_decades 63 = .ok (.ldc_w 404, 3) := by decide +kernel
theorem dX11_decades_66 : decode cX11_decades 66 = .ok (.imul, 1) := by decide +kernel
theorem dX11_decades_67 : decode cX11_decades 67 = .ok (.sipush 12345, 3) := by decide +kernel
theorem dX11_decades_70 : decode cX11_decades 70 = .ok (.iadd, 1) := by decide +kernel
theorem dX11_decades_71 : decode cX11_decades 71 = .ok (.putfield 401, 3) := by decide +kernel
theorem dX11_decades_74 : decode cX11_decades 74 = .ok (.aload_n 0, 1) := by decide +kernel
theorem dX11_decades_75 : decode cX11_decades 75 = .ok (.getfield 401, 3) := by decide +kernel
theorem dX11_decades_78 : decode cX11_decades 78 = .ok (.bipush 16, 2) := by decide +kernel
theorem dX11_decades_80 : decode cX11_decades 80 = .ok (.ishr, 1) := by decide +kernel
theorem dX11_decades_81 : decode cX11_decades 81 = .ok (.bipush 15, 2) := by decide +kernel
theorem dX11_decades_83 : decode cX11_decades 83 = .ok (.iand, 1) := by decide +kernel
theorem dX11_decades_84 : decode cX11_decades 84 = .ok (.iload_n 2, 1) := by decide +kernel
theorem dX11_decades_85 : decode cX11_decades 85 = .ok (.if_icmp .ge 13, 3) := by decide +kernel
theorem dX11_decades_88 : decode cX11_decades 88 = .ok (.aload_n 0, 1) := by decide +kernel
theorem dX11_decades_89 : decode cX11_decades 89 = .ok (.getfield 70, 3) := by decide +kernel
theorem dX11_decades_92 : decode cX11_decades 92 = .ok (.iload 5, 2) := by decide +kernel
theorem dX11_decades_94 : decode cX11_decades 94 = .ok (.invokestatic 292, 3) := by decide +kernel
theorem dX11_decades_97 : decode cX11_decades 97 = .ok (.pop, 1) := by decide +kernel
theorem dX11_decades_98 : decode cX11_decades 98 = .ok (.iinc 5 1, 3) := by decide +kernel
theorem dX11_decades_101 : decode cX11_decades 101 = .ok (.goto (-73), 3) := by decide +kernel
theorem dX11_decades_104 : decode cX11_decades 104 = .ok (.aload_n 0, 1) := by decide +kernel
theorem dX11_decades_105 : decode cX11_decades 105 = .ok (.aload_n 0, 1) := by decide +kernel
theorem dX11_decades_106 : decode cX11_decades 106 = .ok (.getfield 70, 3) := by decide +kernel
theorem dX11_decades_109 : decode cX11_decades 109 = .ok (.invokevirtual 284, 3) := by decide +kernel
theorem dX11_decades_112 : decode cX11_decades 112 = .ok (.pop, 1) := by decide +kernel
theorem dX11_decades_113 : decode cX11_decades 113 = .ok (.iinc 4 1, 3) := by decide +kernel
theorem dX11_decades_116 : decode cX11_decades 116 = .ok (.goto (-97), 3) := by decide +kernel
theorem dX11_decades_119 : decode cX11_decades 119 = .ok (.return_, 1) := by decide +kernel
theorem dX11_ones_0 : decode cX11_ones 0 = .ok (.iconst 0, 1) := by decide +kernel
theorem dX11_ones_1 : decode cX11_ones 1 = .ok (.istore_n 1, 1) := by decide +kernel
theorem dX11_ones_2 : decode cX11_ones 2 = .ok (.iconst 0, 1) := by decide +kernel
theorem dX11_ones_3 : decode cX11_ones 3 = .ok (.istore_n 2, 1) := by decide +kernel
theorem dX11_ones_4 : decode cX11_ones 4 = .ok (.iload_n 2, 1) := by decide +kernel
theorem dX11_ones_5 : decode cX11_ones 5 = .ok (.iconst 5, 1) := by decide +kernel
theorem dX11_ones_6 : decode cX11_ones 6 = .ok (.if_icmp .ge 17, 3) := by decide +kernel
theorem dX11_ones_9 : decode cX11_ones 9 = .ok (.iload_n 1, 1) := by decide +kernel
theorem dX11_ones_10 : decode cX11_ones 10 = .ok (.iload_n 0, 1) := by decide +kernel
theorem dX11_ones_11 : decode cX11_ones 11 = .ok (.iload_n 2, 1) := by decide +kernel
theorem dX11_ones_12 : decode cX11_ones 12 = .ok (.ishr, 1) := by decide +kernel
theorem dX11_ones_13 : decode cX11_ones 13 = .ok (.iconst 1, 1) := by decide +kernel
theorem dX11_ones_14 : decode cX11_ones 14 = .ok (.iand, 1) := by decide +kernel
theorem dX11_ones_15 : decode cX11_ones 15 = .ok (.iadd, 1) := by decide +kernel
theorem dX11_ones_16 : decode cX11_ones 16 = .ok (.istore_n 1, 1) := by decide +kernel
theorem dX11_ones_17 : decode cX11_ones 17 = .ok (.iinc 2 1, 3) := by decide +kernel
theorem dX11_ones_20 : decode cX11_ones 20 = .ok (.goto (-16), 3) := by decide +kernel
theorem dX11_ones_23 : decode cX11_ones 23 = .ok (.iload_n 1, 1) := by decide +kernel
theorem dX11_ones_24 : decode cX11_ones 24 = .ok (.ireturn, 1) := by decide +kernel
theorem dX11_decade_0 : decode cX11_decade 0 = .ok (.aload_n 0, 1) := by decide +kernel
theorem dX11_decade_1 : decode cX11_decade 1 = .ok (.iconst 0, 1) := by decide +kernel
theorem dX11_decade_2 : decode cX11_decade 2 = .ok (.putfield 85, 3) := by decide +kernel
theorem dX11_decade_5 : decode cX11_decade 5 = .ok (.aload_n 0, 1) := by decide +kernel
theorem dX11_decade_6 : decode cX11_decade 6 = .ok (.iload_n 2, 1) := by decide +kernel
theorem dX11_decade_7 : decode cX11_decade 7 = .ok (.iconst 0, 1) := by decide +kernel
theorem dX11_decade_8 : decode cX11_decade 8 = .ok (.bipush 16, 2) := by decide +kernel
theorem dX11_decade_10 : decode cX11_decade 10 = .ok (.invokestatic 119, 3) := by decide +kernel
theorem dX11_decade_13 : decode cX11_decade 13 = .ok (.ifCond .eq 23, 3) := by decide +kernel
theorem dX11_decade_16 : decode cX11_decade 16 = .ok (.iload_n 3, 1) := by decide +kernel
theorem dX11_decade_17 : decode cX11_decade 17 = .ok (.iconst 1, 1) := by decide +kernel
theorem dX11_decade_18 : decode cX11_decade 18 = .ok (.bipush 60, 2) := by decide +kernel
theorem dX11_decade_20 : decode cX11_decade 20 = .ok (.invokestatic 119, 3) := by decide +kernel
theorem dX11_decade_23 : decode cX11_decade 23 = .ok (.ifCond .eq 13, 3) := by decide +kernel
theorem dX11_decade_26 : decode cX11_decade 26 = .ok (.iload 4, 2) := by decide +kernel
theorem dX11_decade_28 : decode cX11_decade 28 = .ok (.iconst 0, 1) := by decide +kernel
theorem dX11_decade_29 : decode cX11_decade 29 = .ok (.iconst 2, 1) := by decide +kernel
theorem dX11_decade_30 : decode cX11_decade 30 = .ok (.invokestatic 119, 3) := by decide +kernel
theorem dX11_decade_33 : decode cX11_decade 33 = .ok (.ifCond .ne 7, 3) := by decide +kernel
theorem dX11_decade_36 : decode cX11_decade 36 = .ok (.iconst 1, 1) := by decide +kernel
theorem dX11_decade_37 : decode cX11_decade 37 = .ok (.goto 4, 3) := by decide +kernel
theorem dX11_decade_40 : decode cX11_decade 40 = .ok (.iconst 0, 1) := by decide +kernel
theorem dX11_decade_41 : decode cX11_decade 41 = .ok (.iconst 1, 1) := by decide +kernel
theorem dX11_decade_42 : decode cX11_decade 42 = .ok (.iconst 2, 1) := by decide +kernel
theorem dX11_decade_43 : decode cX11_decade 43 = .ok (.invokevirtual 158, 3) := by decide +kernel
theorem dX11_decade_46 : decode cX11_decade 46 = .ok (.ifCond .eq 5, 3) := by decide +kernel
theorem dX11_decade_49 : decode cX11_decade 49 = .ok (.iconst 0, 1) := by decide +kernel
theorem dX11_decade_50 : decode cX11_decade 50 = .ok (.ireturn, 1) := by decide +kernel
theorem dX11_decade_51 : decode cX11_decade 51 = .ok (.aload_n 0, 1) := by decide +kernel
theorem dX11_decade_52 : decode cX11_decade 52 = .ok (.iload_n 1, 1) := by decide +kernel
theorem dX11_decade_53 : decode cX11_decade 53 = .ok (.iload_n 2, 1) := by decide +kernel
theorem dX11_decade_54 : decode cX11_decade 54 = .ok (.iload_n 3, 1) := by decide +kernel
theorem dX11_decade_55 : decode cX11_decade 55 = .ok (.invokevirtual 405, 3) := by decide +kernel
theorem dX11_decade_58 : decode cX11_decade 58 = .ok (.iload 4, 2) := by decide +kernel
theorem dX11_decade_60 : decode cX11_decade 60 = .ok (.ifCond .ne 14, 3) := by decide +kernel
theorem dX11_decade_63 : decode cX11_decade 63 = .ok (.aload_n 0, 1) := by decide +kernel
theorem dX11_decade_64 : decode cX11_decade 64 = .ok (.aload_n 0, 1) := by decide +kernel
theorem dX11_decade_65 : decode cX11_decade 65 = .ok (.getfield 70, 3) := by decide +kernel
theorem dX11_decade_68 : decode cX11_decade 68 = .ok (.invokevirtual 312, 3) := by decide +kernel
theorem dX11_decade_71 : decode cX11_decade 71 = .ok (.goto 40, 3) := by decide +kernel
theorem dX11_decade_74 : decode cX11_decade 74 = .ok (.iload 4, 2) := by decide +kernel
theorem dX11_decade_76 : decode cX11_decade 76 = .ok (.iconst 1, 1) := by decide +kernel
theorem dX11_decade_77 : decode cX11_decade 77 = .ok (.if_icmp .ne 17, 3) := by decide +kernel
theorem dX11_decade_80 : decode cX11_decade 80 = .ok (.aload_n 0, 1) := by decide +kernel
theorem dX11_decade_81 : decode cX11_decade 81 = .ok (.getfield 70, 3) := by decide +kernel
theorem dX11_decade_84 : decode cX11_decade 84 = .ok (.sipush 2681, 3) := by decide +kernel
theorem dX11_decade_87 : decode cX11_decade 87 = .ok (.iaload, 1) := by decide +kernel
theorem dX11_decade_88 : decode cX11_decade 88 = .ok (.invokestatic 409, 3) := by decide +kernel
theorem dX11_decade_91 : decode cX11_decade 91 = .ok (.goto 20, 3) := by decide +kernel
theorem dX11_decade_94 : decode cX11_decade 94 = .ok (.aload_n 0, 1) := by decide +kernel
theorem dX11_decade_95 : decode cX11_decade 95 = .ok (.getfield 70, 3) := by decide +kernel
theorem dX11_decade_98 : decode cX11_decade 98 = .ok (.sipush 2683, 3) := by decide +kernel
theorem dX11_decade_101 : decode cX11_decade 101 = .ok (.iaload, 1) := by decide +kernel
theorem dX11_decade_102 : decode cX11_decade 102 = .ok (.aload_n 0, 1) := by decide +kernel
theorem dX11_decade_103 : decode cX11_decade 103 = .ok (.getfield 67, 3) := by decide +kernel
theorem dX11_decade_106 : decode cX11_decade 106 = .ok (.sipush 2683, 3) := by decide +kernel
theorem dX11_decade_109 : decode cX11_decade 109 = .ok (.iaload, 1) := by decide +kernel
theorem dX11_decade_110 : decode cX11_decade 110 = .ok (.isub, 1) := by decide +kernel
theorem dX11_decade_111 : decode cX11_decade 111 = .ok (.ireturn, 1) := by decide +kernel
theorem dX11_span_0 : decode cX11_span 0 = .ok (.aload_n 0, 1) := by decide +kernel
theorem dX11_span_1 : decode cX11_span 1 = .ok (.iconst 0, 1) := by decide +kernel
theorem dX11_span_2 : decode cX11_span 2 = .ok (.putfield 85, 3) := by decide +kernel
theorem dX11_span_5 : decode cX11_span 5 = .ok (.aload_n 0, 1) := by decide +kernel
theorem dX11_span_6 : decode cX11_span 6 = .ok (.iload_n 2, 1) := by decide +kernel
theorem dX11_span_7 : decode cX11_span 7 = .ok (.iconst 1, 1) := by decide +kernel
theorem dX11_span_8 : decode cX11_span 8 = .ok (.bipush 20, 2) := by decide +kernel
theorem dX11_span_10 : decode cX11_span 10 = .ok (.invokestatic 119, 3) := by decide +kernel
theorem dX11_span_13 : decode cX11_span 13 = .ok (.ifCond .eq 43, 3) := by decide +kernel
theorem dX11_span_16 : decode cX11_span 16 = .ok (.iload_n 3, 1) := by decide +kernel
theorem dX11_span_17 : decode cX11_span 17 = .ok (.iconst 0, 1) := by decide +kernel
theorem dX11_span_18 : decode cX11_span 18 = .ok (.bipush 16, 2) := by decide +kernel
theorem dX11_span_20 : decode cX11_span 20 = .ok (.invokestatic 119, 3) := by decide +kernel
theorem dX11_span_23 : decode cX11_span 23 = .ok (.ifCond .eq 33, 3) := by decide +kernel
theorem dX11_span_26 : decode cX11_span 26 = .ok (.iload 4, 2) := by decide +kernel
theorem dX11_span_28 : decode cX11_span 28 = .ok (.iconst 1, 1) := by decide +kernel
theorem dX11_span_29 : decode cX11_span 29 = .ok (.bipush 60, 2) := by decide +kernel
theorem dX11_span_31 : decode cX11_span 31 = .ok (.invokestatic 119, 3) := by decide +kernel
theorem dX11_span_34 : decode cX11_span 34 = .ok (.ifCond .eq 22, 3) := by decide +kernel
theorem dX11_span_37 : decode cX11_span 37 = .ok (.iload 5, 2) := by decide +kernel
theorem dX11_span_39 : decode cX11_span 39 = .ok (.iconst 0, 1) := by decide +kernel
theorem dX11_span_40 : decode cX11_span 40 = .ok (.iconst 2, 1) := by decide +kernel
theorem dX11_span_41 : decode cX11_span 41 = .ok (.invokestatic 119, 3) := by decide +kernel
theorem dX11_span_44 : decode cX11_span 44 = .ok (.ifCond .eq 12, 3) := by decide +kernel
theorem dX11_span_47 : decode cX11_span 47 = .ok (.aload_n 0, 1) := by decide +kernel
theorem dX11_span_48 : decode cX11_span 48 = .ok (.iload 6, 2) := by decide +kernel
theorem dX11_span_50 : decode cX11_span 50 = .ok (.invokevirtual 315, 3) := by decide +kernel
theorem dX11_span_53 : decode cX11_span 53 = .ok (.ifCond .ne 7, 3) := by decide +kernel
theorem dX11_span_56 : decode cX11_span 56 = .ok (.iconst 1, 1) := by decide +kernel
theorem dX11_span_57 : decode cX11_span 57 = .ok (.goto 4, 3) := by decide +kernel
theorem dX11_span_60 : decode cX11_span 60 = .ok (.iconst 0, 1) := by decide +kernel
theorem dX11_span_61 : decode cX11_span 61 = .ok (.iconst 1, 1) := by decide +kernel
theorem dX11_span_62 : decode cX11_span 62 = .ok (.iconst 2, 1) := by decide +kernel
theorem dX11_span_63 : decode cX11_span 63 = .ok (.invokevirtual 158, 3) := by decide +kernel
theorem dX11_span_66 : decode cX11_span 66 = .ok (.ifCond .eq 5, 3) := by decide +kernel
theorem dX11_span_69 : decode cX11_span 69 = .ok (.iconst 0, 1) := by decide +kernel
theorem dX11_span_70 : decode cX11_span 70 = .ok (.ireturn, 1) := by decide +kernel
theorem dX11_span_71 : decode cX11_span 71 = .ok (.iconst (-1), 1) := by decide +kernel
theorem dX11_span_72 : decode cX11_span 72 = .ok (.istore 7, 2) := by decide +kernel
theorem dX11_span_74 : decode cX11_span 74 = .ok (.iconst 0, 1) := by decide +kernel
theorem dX11_span_75 : decode cX11_span 75 = .ok (.istore 8, 2) := by decide +kernel
theorem dX11_span_77 : decode cX11_span 77 = .ok (.iconst 0, 1) := by decide +kernel
theorem dX11_span_78 : decode cX11_span 78 = .ok (.istore 9, 2) := by decide +kernel
theorem dX11_span_80 : decode cX11_span 80 = .ok (.iconst 0, 1) := by decide +kernel
theorem dX11_span_81 : decode cX11_span 81 = .ok (.istore 10, 2) := by decide +kernel
theorem dX11_span_83 : decode cX11_span 83 = .ok (.iload 10, 2) := by decide +kernel
theorem dX11_span_85 : decode cX11_span 85 = .ok (.iload_n 2, 1) := by decide +kernel
theorem dX11_span_86 : decode cX11_span 86 = .ok (.if_icmp .ge 85, 3) := by decide +kernel
theorem dX11_span_89 : decode cX11_span 89 = .ok (.aload_n 0, 1) := by decide +kernel
theorem dX11_span_90 : decode cX11_span 90 = .ok (.iload_n 1, 1) := by decide +kernel
theorem dX11_span_91 : decode cX11_span 91 = .ok (.iload 10, 2) := by decide +kernel
theorem dX11_span_93 : decode cX11_span 93 = .ok (.iadd, 1) := by decide +kernel
theorem dX11_span_94 : decode cX11_span 94 = .ok (.iload_n 3, 1) := by decide +kernel
theorem dX11_span_95 : decode cX11_span 95 = .ok (.iload 4, 2) := by decide +kernel
theorem dX11_span_97 : decode cX11_span 97 = .ok (.invokevirtual 405, 3) := by decide +kernel
theorem dX11_span_100 : decode cX11_span 100 = .ok (.aload_n 0, 1) := by decide +kernel
theorem dX11_span_101 : decode cX11_span 101 = .ok (.aload_n 0, 1) := by decide +kernel
theorem dX11_span_102 : decode cX11_span 102 = .ok (.getfield 70, 3) := by decide +kernel
theorem dX11_span_105 : decode cX11_span 105 = .ok (.invokevirtual 312, 3) := by decide +kernel
theorem dX11_span_108 : decode cX11_span 108 = .ok (.istore 11, 2) := by decide +kernel
theorem dX11_span_110 : decode cX11_span 110 = .ok (.iload 7, 2) := by decide +kernel
theorem dX11_span_112 : decode cX11_span 112 = .ok (.iconst (-1), 1) := by decide +kernel
theorem dX11_span_113 : decode cX11_span 113 = .ok (.if_icmp .ne 8, 3) := by decide +kernel
theorem dX11_span_116 : decode cX11_span 116 = .ok (.iload 11, 2) := by decide +kernel
theorem dX11_span_118 : decode cX11_span 118 = .ok (.goto 10, 3) := by decide +kernel
theorem dX11_span_121 : decode cX11_span 121 = .ok (.iload 7, 2) := by decide +kernel
theorem dX11_span_123 : decode cX11_span 123 = .ok (.iload 11, 2) := by decide +kernel
theorem dX11_span_125 : decode cX11_span 125 = .ok (.invokestatic 218, 3) := by decide +kernel
theorem dX11_span_128 : decode cX11_span 128 = .ok (.istore 7, 2) := by decide +kernel
theorem dX11_span_130 : decode cX11_span 130 = .ok (.iload 8, 2) := by decide +kernel
theorem dX11_span_132 : decode cX11_span 132 = .ok (.iload 11, 2) := by decide +kernel
theorem dX11_span_134 : decode cX11_span 134 = .ok (.invokestatic 221, 3) := by decide +kernel
theorem dX11_span_137 : decode cX11_span 137 = .ok (.istore 8, 2) := by decide +kernel
theorem dX11_span_139 : decode cX11_span 139 = .ok (.iload 9, 2) := by decide +kernel
theorem dX11_span_141 : decode cX11_span 141 = .ok (.aload_n 0, 1) := by decide +kernel
theorem dX11_span_142 : decode cX11_span 142 = .ok (.getfield 70, 3) := by decide +kernel
theorem dX11_span_145 : decode cX11_span 145 = .ok (.sipush 2681, 3) := by decide +kernel
theorem dX11_span_148 : decode cX11_span 148 = .ok (.iaload, 1) := by decide +kernel
theorem dX11_span_149 : decode cX11_span 149 = .ok (.iload 6, 2) := by decide +kernel
theorem dX11_span_151 : decode cX11_span 151 = .ok (.invokestatic 259, 3) := by decide +kernel
theorem dX11_span_154 : decode cX11_span 154 = .ok (.ifCond .eq 7, 3) := by decide +kernel
theorem dX11_span_157 : decode cX11_span 157 = .ok (.iconst 0, 1) := by decide +kernel
theorem dX11_span_158 : decode cX11_span 158 = .ok (.goto 4, 3) := by decide +kernel
theorem dX11_span_161 : decode cX11_span 161 = .ok (.iconst 1, 1) := by decide +kernel
theorem dX11_span_162 : decode cX11_span 162 = .ok (.iadd, 1) := by decide +kernel
theorem dX11_span_163 : decode cX11_span 163 = .ok (.istore 9, 2) := by decide +kernel
theorem dX11_span_165 : decode cX11_span 165 = .ok (.iinc 10 1, 3) := by decide +kernel
theorem dX11_span_168 : decode cX11_span 168 = .ok (.goto (-85), 3) := by decide +kernel
theorem dX11_span_171 : decode cX11_span 171 = .ok (.iload 5, 2) := by decide +kernel
theorem dX11_span_173 : decode cX11_span 173 = .ok (.ifCond .ne 8, 3) := by decide +kernel
theorem dX11_span_176 : decode cX11_span 176 = .ok (.iload 7, 2) := by decide +kernel
theorem dX11_span_178 : decode cX11_span 178 = .ok (.goto 16, 3) := by decide +kernel
theorem dX11_span_181 : decode cX11_span 181 = .ok (.iload 5, 2) := by decide +kernel
theorem dX11_span_183 : decode cX11_span 183 = .ok (.iconst 1, 1) := by decide +kernel
theorem dX11_span_184 : decode cX11_span 184 = .ok (.if_icmp .ne 8, 3) := by decide +kernel
theorem dX11_span_187 : decode cX11_span 187 = .ok (.iload 8, 2) := by decide +kernel
theorem dX11_span_189 : decode cX11_span 189 = .ok (.goto 5, 3) := by decide +kernel
theorem dX11_span_192 : decode cX11_span 192 = .ok (.iload 9, 2) := by decide +kernel
theorem dX11_span_194 : decode cX11_span 194 = .ok (.ireturn, 1) := by decide +kernel
theorem dX11_puts_0 : decode cX11_puts 0 = .ok (.iload_n 3, 1) := by decide +kernel
theorem dX11_puts_1 : decode cX11_puts 1 = .ok (.ifCond .ne 10, 3) := by decide +kernel
theorem dX11_puts_4 : decode cX11_puts 4 = .ok (.aload_n 1, 1) := by decide +kernel
theorem dX11_puts_5 : decode cX11_puts 5 = .ok (.aload_n 0, 1) := by decide +kernel
theorem dX11_puts_6 : decode cX11_puts 6 = .ok (.getfield 412, 3) := by decide +kernel
theorem dX11_puts_9 : decode cX11_puts 9 = .ok (.iload_n 2, 1) := by decide +kernel
theorem dX11_puts_10 : decode cX11_puts 10 = .ok (.iastore, 1) := by decide +kernel
theorem dX11_puts_11 : decode cX11_puts 11 = .ok (.aload_n 0, 1) := by decide +kernel
theorem dX11_puts_12 : decode cX11_puts 12 = .ok (.dup, 1) := by decide +kernel
theorem dX11_puts_13 : decode cX11_puts 13 = .ok (.getfield 412, 3) := by decide +kernel
theorem dX11_puts_16 : decode cX11_puts 16 = .ok (.iconst 1, 1) := by decide +kernel
theorem dX11_puts_17 : decode cX11_puts 17 = .ok (.iadd, 1) := by decide +kernel
theorem dX11_puts_18 : decode cX11_puts 18 = .ok (.putfield 412, 3) := by decide +kernel
theorem dX11_puts_21 : decode cX11_puts 21 = .ok (.aload_n 1, 1) := by decide +kernel
theorem dX11_puts_22 : decode cX11_puts 22 = .ok (.aload_n 0, 1) := by decide +kernel
theorem dX11_puts_23 : decode cX11_puts 23 = .ok (.getfield 412, 3) := by decide +kernel
theorem dX11_puts_26 : decode cX11_puts 26 = .ok (.iconst 1, 1) := by decide +kernel
theorem dX11_puts_27 : decode cX11_puts 27 = .ok (.isub, 1) := by decide +kernel
theorem dX11_puts_28 : decode cX11_puts 28 = .ok (.iaload, 1) := by decide +kernel
theorem dX11_puts_29 : decode cX11_puts 29 = .ok (.ireturn, 1) := by decide +kernel
theorem dX11_putsAll_0 : decode cX11_putsAll 0 = .ok (.aload_n 0, 1) := by decide +kernel
theorem dX11_putsAll_1 : decode cX11_putsAll 1 = .ok (.iconst 0, 1) := by decide +kernel
theorem dX11_putsAll_2 : decode cX11_putsAll 2 = .ok (.putfield 412, 3) := by decide +kernel
theorem dX11_putsAll_5 : decode cX11_putsAll 5 = .ok (.aload_n 0, 1) := by decide +kernel
theorem dX11_putsAll_6 : decode cX11_putsAll 6 = .ok (.aload_n 0, 1) := by decide +kernel
theorem dX11_putsAll_7 : decode cX11_putsAll 7 = .ok (.aload_n 1, 1) := by decide +kernel
theorem dX11_putsAll_8 : decode cX11_putsAll 8 = .ok (.aload_n 0, 1) := by decide +kernel
theorem dX11_putsAll_9 : decode cX11_putsAll 9 = .ok (.getfield 181, 3) := by decide +kernel
theorem dX11_putsAll_12 : decode cX11_putsAll 12 = .ok (.iload_n 2, 1) := by decide +kernel
theorem dX11_putsAll_13 : decode cX11_putsAll 13 = .ok (.invokevirtual 415, 3) := by decide +kernel
theorem dX11_putsAll_16 : decode cX11_putsAll 16 = .ok (.putfield 181, 3) := by decide +kernel
theorem dX11_putsAll_19 : decode cX11_putsAll 19 = .ok (.iconst 0, 1) := by decide +kernel
theorem dX11_putsAll_20 : decode cX11_putsAll 20 = .ok (.istore_n 3, 1) := by decide +kernel
theorem dX11_putsAll_21 : decode cX11_putsAll 21 = .ok (.iload_n 3, 1) := by decide +kernel
theorem dX11_putsAll_22 : decode cX11_putsAll 22 = .ok (.sipush 2685, 3) := by decide +kernel
theorem dX11_putsAll_25 : decode cX11_putsAll 25 = .ok (.if_icmp .ge 27, 3) := by decide +kernel
theorem dX11_putsAll_28 : decode cX11_putsAll 28 = .ok (.aload_n 0, 1) := by decide +kernel
theorem dX11_putsAll_29 : decode cX11_putsAll 29 = .ok (.getfield 67, 3) := by decide +kernel
theorem dX11_putsAll_32 : decode cX11_putsAll 32 = .ok (.iload_n 3, 1) := by decide +kernel
theorem dX11_putsAll_33 : decode cX11_putsAll 33 = .ok (.aload_n 0, 1) := by decide +kernel
theorem dX11_putsAll_34 : decode cX11_putsAll 34 = .ok (.aload_n 1, 1) := by decide +kernel
theorem dX11_putsAll_35 : decode cX11_putsAll 35 = .ok (.aload_n 0, 1) := by decide +kernel
theorem dX11_putsAll_36 : decode cX11_putsAll 36 = .ok (.getfield 67, 3) := by decide +kernel
theorem dX11_putsAll_39 : decode cX11_putsAll 39 = .ok (.iload_n 3, 1) := by decide +kernel
theorem dX11_putsAll_40 : decode cX11_putsAll 40 = .ok (.iaload, 1) := by decide +kernel
theorem dX11_putsAll_41 : decode cX11_putsAll 41 = .ok (.iload_n 2, 1) := by decide +kernel
theorem dX11_putsAll_42 : decode cX11_putsAll 42 = .ok (.invokevirtual 415, 3) := by decide +kernel
theorem dX11_putsAll_45 : decode cX11_putsAll 45 = .ok (.iastore, 1) := by decide +kernel
theorem dX11_putsAll_46 : decode cX11_putsAll 46 = .ok (.iinc 3 1, 3) := by decide +kernel
theorem dX11_putsAll_49 : decode cX11_putsAll 49 = .ok (.goto (-28), 3) := by decide +kernel
theorem dX11_putsAll_52 : decode cX11_putsAll 52 = .ok (.iconst 0, 1) := by decide +kernel
theorem dX11_putsAll_53 : decode cX11_putsAll 53 = .ok (.istore_n 3, 1) := by decide +kernel
theorem dX11_putsAll_54 : decode cX11_putsAll 54 = .ok (.iload_n 3, 1) := by decide +kernel
theorem dX11_putsAll_55 : decode cX11_putsAll 55 = .ok (.bipush 8, 2) := by decide +kernel
theorem dX11_putsAll_57 : decode cX11_putsAll 57 = .ok (.if_icmp .ge 50, 3) := by decide +kernel
theorem dX11_putsAll_60 : decode cX11_putsAll 60 = .ok (.iconst 0, 1) := by decide +kernel
theorem dX11_putsAll_61 : decode cX11_putsAll 61 = .ok (.istore 4, 2) := by decide +kernel
theorem dX11_putsAll_63 : decode cX11_putsAll 63 = .ok (.iload 4, 2) := by decide +kernel
theorem dX11_putsAll_65 : decode cX11_putsAll 65 = .ok (.sipush 2685, 3) := by decide +kernel
theorem dX11_putsAll_68 : decode cX11_putsAll 68 = .ok (.if_icmp .ge 33, 3) := by decide +kernel
theorem dX11_putsAll_71 : decode cX11_putsAll 71 = .ok (.aload_n 0, 1) := by decide +kernel
theorem dX11_putsAll_72 : decode cX11_putsAll 72 = .ok (.getfield 73, 3) := by decide +kernel
theorem dX11_putsAll_75 : decode cX11_putsAll 75 = .ok (.iload_n 3, 1) := by decide +kernel
theorem dX11_putsAll_76 : decode cX11_putsAll 76 = .ok (.aaload, 1) := by decide +kernel
theorem dX11_putsAll_77 : decode cX11_putsAll 77 = .ok (.iload 4, 2) := by decide +kernel
theorem dX11_putsAll_79 : decode cX11_putsAll 79 = .ok (.aload_n 0, 1) := by decide +kernel
theorem dX11_putsAll_80 : decode cX11_putsAll 80 = .ok (.aload_n 1, 1) := by decide +kernel
theorem dX11_putsAll_81 : decode cX11_putsAll 81 = .ok (.aload_n 0, 1) := by decide +kernel
theorem dX11_putsAll_82 : decode cX11_putsAll 82 = .ok (.getfield 73, 3) := by decide +kernel
theorem dX11_putsAll_85 : decode cX11_putsAll 85 = .ok (.iload_n 3, 1) := by decide +kernel
theorem dX11_putsAll_86 : decode cX11_putsAll 86 = .ok (.aaload, 1) := by decide +kernel
theorem dX11_putsAll_87 : decode cX11_putsAll 87 = .ok (.iload 4, 2) := by decide +kernel
theorem dX11_putsAll_89 : decode cX11_putsAll 89 = .ok (.iaload, 1) := by decide +kernel
theorem dX11_putsAll_90 : decode cX11_putsAll 90 = .ok (.iload_n 2, 1) := by decide +kernel
theorem dX11_putsAll_91 : decode cX11_putsAll 91 = .ok (.invokevirtual 415, 3) := by decide +kernel
theorem dX11_putsAll_94 : decode cX11_putsAll 94 = .ok (.iastore, 1) := by decide +kernel
theorem dX11_putsAll_95 : decode cX11_putsAll 95 = .ok (.iinc 4 1, 3) := by decide +kernel
theorem dX11_putsAll_98 : decode cX11_putsAll 98 = .ok (.goto (-35), 3) := by decide +kernel
theorem dX11_putsAll_101 : decode cX11_putsAll 101 = .ok (.iinc 3 1, 3) := by decide +kernel
theorem dX11_putsAll_104 : decode cX11_putsAll 104 = .ok (.goto (-50), 3) := by decide +kernel
theorem dX11_putsAll_107 : decode cX11_putsAll 107 = .ok (.return_, 1) := by decide +kernel
theorem dX11_image_0 : decode cX11_image 0 = .ok (.aload_n 0, 1) := by decide +kernel
theorem dX11_image_1 : decode cX11_image 1 = .ok (.iconst 0, 1) := by decide +kernel
theorem dX11_image_2 : decode cX11_image 2 = .ok (.putfield 85, 3) := by decide +kernel
theorem dX11_image_5 : decode cX11_image 5 = .ok (.aload_n 0, 1) := by decide +kernel
theorem dX11_image_6 : decode cX11_image 6 = .ok (.getfield 187, 3) := by decide +kernel
theorem dX11_image_9 : decode cX11_image 9 = .ok (.iconst 2, 1) := by decide +kernel
theorem dX11_image_10 : decode cX11_image 10 = .ok (.if_icmp .ne 5, 3) := by decide +kernel
theorem dX11_image_13 : decode cX11_image 13 = .ok (.iconst (-1), 1) := by decide +kernel
theorem dX11_image_14 : decode cX11_image 14 = .ok (.ireturn, 1) := by decide +kernel
theorem dX11_image_15 : decode cX11_image 15 = .ok (.aload_n 0, 1) := by decide +kernel
theorem dX11_image_16 : decode cX11_image 16 = .ok (.aload_n 0, 1) := by decide +kernel
theorem dX11_image_17 : decode cX11_image 17 = .ok (.getfield 76, 3) := by decide +kernel
theorem dX11_image_20 : decode cX11_image 20 = .ok (.aload_n 0, 1) := by decide +kernel
theorem dX11_image_21 : decode cX11_image 21 = .ok (.getfield 187, 3) := by decide +kernel
theorem dX11_image_24 : decode cX11_image 24 = .ok (.aaload, 1) := by decide +kernel
theorem dX11_image_25 : decode cX11_image 25 = .ok (.iconst 0, 1) := by decide +kernel
theorem dX11_image_26 : decode cX11_image 26 = .ok (.invokevirtual 419, 3) := by decide +kernel
theorem dX11_image_29 : decode cX11_image 29 = .ok (.aload_n 0, 1) := by decide +kernel
theorem dX11_image_30 : decode cX11_image 30 = .ok (.dup, 1) := by decide +kernel
theorem dX11_image_31 : decode cX11_image 31 = .ok (.getfield 187, 3) := by decide +kernel
theorem dX11_image_34 : decode cX11_image 34 = .ok (.iconst 1, 1) := by decide +kernel
theorem dX11_image_35 : decode cX11_image 35 = .ok (.iadd, 1) := by decide +kernel
theorem dX11_image_36 : decode cX11_image 36 = .ok (.putfield 187, 3) := by decide +kernel
theorem dX11_image_39 : decode cX11_image 39 = .ok (.aload_n 0, 1) := by decide +kernel
theorem dX11_image_40 : decode cX11_image 40 = .ok (.getfield 187, 3) := by decide +kernel
theorem dX11_image_43 : decode cX11_image 43 = .ok (.ireturn, 1) := by decide +kernel
theorem dX11_restore_0 : decode cX11_restore 0 = .ok (.aload_n 0, 1) := by decide +kernel
theorem dX11_restore_1 : decode cX11_restore 1 = .ok (.iconst 0, 1) := by decide +kernel
theorem dX11_restore_2 : decode cX11_restore 2 = .ok (.putfield 85, 3) := by decide +kernel
theorem dX11_restore_5 : decode cX11_restore 5 = .ok (.aload_n 0, 1) := by decide +kernel
theorem dX11_restore_6 : decode cX11_restore 6 = .ok (.getfield 187, 3) := by decide +kernel
theorem dX11_restore_9 : decode cX11_restore 9 = .ok (.ifCond .ne 5, 3) := by decide +kernel
theorem dX11_restore_12 : decode cX11_restore 12 = .ok (.iconst (-1), 1) := by decide +kernel
theorem dX11_restore_13 : decode cX11_restore 13 = .ok (.ireturn, 1) := by decide +kernel
theorem dX11_restore_14 : decode cX11_restore 14 = .ok (.aload_n 0, 1) := by decide +kernel
theorem dX11_restore_15 : decode cX11_restore 15 = .ok (.dup, 1) := by decide +kernel
theorem dX11_restore_16 : decode cX11_restore 16 = .ok (.getfield 187, 3) := by decide +kernel
theorem dX11_restore_19 : decode cX11_restore 19 = .ok (.iconst 1, 1) := by decide +kernel
theorem dX11_restore_20 : decode cX11_restore 20 = .ok (.isub, 1) := by decide +kernel
theorem dX11_restore_21 : decode cX11_restore 21 = .ok (.putfield 187, 3) := by decide +kernel
theorem dX11_restore_24 : decode cX11_restore 24 = .ok (.aload_n 0, 1) := by decide +kernel
theorem dX11_restore_25 : decode cX11_restore 25 = .ok (.aload_n 0, 1) := by decide +kernel
theorem dX11_restore_26 : decode cX11_restore 26 = .ok (.getfield 76, 3) := by decide +kernel
theorem dX11_restore_29 : decode cX11_restore 29 = .ok (.aload_n 0, 1) := by decide +kernel
theorem dX11_restore_30 : decode cX11_restore 30 = .ok (.getfield 187, 3) := by decide +kernel
theorem dX11_restore_33 : decode cX11_restore 33 = .ok (.aaload, 1) := by decide +kernel
theorem dX11_restore_34 : decode cX11_restore 34 = .ok (.iconst 1, 1) := by decide +kernel
theorem dX11_restore_35 : decode cX11_restore 35 = .ok (.invokevirtual 419, 3) := by decide +kernel
theorem dX11_restore_38 : decode cX11_restore 38 = .ok (.aload_n 0, 1) := by decide +kernel
theorem dX11_restore_39 : decode cX11_restore 39 = .ok (.iconst 0, 1) := by decide +kernel
theorem dX11_restore_40 : decode cX11_restore 40 = .ok (.putfield 184, 3) := by decide +kernel
theorem dX11_restore_43 : decode cX11_restore 43 = .ok (.aload_n 0, 1) := by decide +kernel
theorem dX11_restore_44 : decode cX11_restore 44 = .ok (.getfield 187, 3) := by decide +kernel
theorem dX11_restore_47 : decode cX11_restore 47 = .ok (.ireturn, 1) := by decide +kernel
theorem dX11_status_0 : decode cX11_status 0 = .ok (.aload_n 0, 1) := by decide +kernel
theorem dX11_status_1 : decode cX11_status 1 = .ok (.iconst 0, 1) := by decide +kernel
theorem dX11_status_2 : decode cX11_status 2 = .ok (.putfield 85, 3) := by decide +kernel
theorem dX11_status_5 : decode cX11_status 5 = .ok (.iload_n 1, 1) := by decide +kernel
theorem dX11_status_6 : decode cX11_status 6 = .ok (.iconst 0, 1) := by decide +kernel
theorem dX11_status_7 : decode cX11_status 7 = .ok (.iconst 2, 1) := by decide +kernel
theorem dX11_status_8 : decode cX11_status 8 = .ok (.invokestatic 119, 3) := by decide +kernel
theorem dX11_status_11 : decode cX11_status 11 = .ok (.ifCond .eq 12, 3) := by decide +kernel
theorem dX11_status_14 : decode cX11_status 14 = .ok (.aload_n 0, 1) := by decide +kernel
theorem dX11_status_15 : decode cX11_status 15 = .ok (.getfield 17, 3) := by decide +kernel
theorem dX11_status_18 : decode cX11_status 18 = .ok (.iload_n 1, 1) := by decide +kernel
theorem dX11_status_19 : decode cX11_status 19 = .ok (.iaload, 1) := by decide +kernel
theorem dX11_status_20 : decode cX11_status 20 = .ok (.goto 4, 3) := by decide +kernel
theorem dX11_status_23 : decode cX11_status 23 = .ok (.iconst (-1), 1) := by decide +kernel
theorem dX11_status_24 : decode cX11_status 24 = .ok (.ireturn, 1) := by decide +kernel
theorem dX11_count_0 : decode cX11_count 0 = .ok (.aload_n 0, 1) := by decide +kernel
theorem dX11_count_1 : decode cX11_count 1 = .ok (.iconst 0, 1) := by decide +kernel
theorem dX11_count_2 : decode cX11_count 2 = .ok (.putfield 85, 3) := by decide +kernel
theorem dX11_count_5 : decode cX11_count 5 = .ok (.iload_n 1, 1) := by decide +kernel
theorem dX11_count_6 : decode cX11_count 6 = .ok (.ifCond .ne 10, 3) := by decide +kernel
theorem dX11_count_9 : decode cX11_count 9 = .ok (.aload_n 0, 1) := by decide +kernel
theorem dX11_count_10 : decode cX11_count 10 = .ok (.getfield 187, 3) := by decide +kernel
theorem dX11_count_13 : decode cX11_count 13 = .ok (.goto 28, 3) := by decide +kernel
theorem dX11_count_16 : decode cX11_count 16 = .ok (.iload_n 1, 1) := by decide +kernel
theorem dX11_count_17 : decode cX11_count 17 = .ok (.iconst 1, 1) := by decide +kernel
theorem dX11_count_18 : decode cX11_count 18 = .ok (.if_icmp .ne 10, 3) := by decide +kernel
theorem dX11_count_21 : decode cX11_count 21 = .ok (.aload_n 0, 1) := by decide +kernel
theorem dX11_count_22 : decode cX11_count 22 = .ok (.getfield 88, 3) := by decide +kernel
theorem dX11_count_25 : decode cX11_count 25 = .ok (.goto 16, 3) := by decide +kernel
theorem dX11_count_28 : decode cX11_count 28 = .ok (.iload_n 1, 1) := by decide +kernel
theorem dX11_count_29 : decode cX11_count 29 = .ok (.iconst 2, 1) := by decide +kernel
theorem dX11_count_30 : decode cX11_count 30 = .ok (.if_icmp .ne 10, 3) := by decide +kernel
theorem dX11_count_33 : decode cX11_count 33 = .ok (.aload_n 0, 1) := by decide +kernel
theorem dX11_count_34 : decode cX11_count 34 = .ok (.getfield 181, 3) := by decide +kernel
theorem dX11_count_37 : decode cX11_count 37 = .ok (.goto 4, 3) := by decide +kernel
theorem dX11_count_40 : decode cX11_count 40 = .ok (.iconst (-1), 1) := by decide +kernel
theorem dX11_count_41 : decode cX11_count 41 = .ok (.ireturn, 1) := by decide +kernel
