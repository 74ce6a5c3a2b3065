theorem dL_street_0 : decode cL_street 0 = .ok (.aload_n 2, 1) := by decide +kernel
theorem dL_street_1 : decode cL_street 1 = .ok (.iconst 0, 1) := by decide +kernel
theorem dL_street_2 : decode cL_street 2 = .ok (.aload_n 0, 1) := by decide +kernel
theorem dL_street_3 : decode cL_street 3 = .ok (.iload_n 1, 1) := by decide +kernel
theorem dL_street_4 : decode cL_street 4 = .ok (.invokevirtual 7, 3) := by decide +kernel
theorem dL_street_7 : decode cL_street 7 = .ok (.i2l, 1) := by decide +kernel
theorem dL_street_8 : decode cL_street 8 = .ok (.lastore, 1) := by decide +kernel
theorem dL_street_9 : decode cL_street 9 = .ok (.goto 6, 3) := by decide +kernel
theorem dL_street_12 : decode cL_street 12 = .ok (.astore_n 3, 1) := by decide +kernel
theorem dL_street_13 : decode cL_street 13 = .ok (.iconst 1, 1) := by decide +kernel
theorem dL_street_14 : decode cL_street 14 = .ok (.ireturn, 1) := by decide +kernel
theorem dL_street_15 : decode cL_street 15 = .ok (.iconst 0, 1) := by decide +kernel
theorem dL_street_16 : decode cL_street 16 = .ok (.ireturn, 1) := by decide +kernel
theorem dL_law_0 : decode cL_law 0 = .ok (.aload_n 2, 1) := by decide +kernel
theorem dL_law_1 : decode cL_law 1 = .ok (.iconst 0, 1) := by decide +kernel
theorem dL_law_2 : decode cL_law 2 = .ok (.aload_n 0, 1) := by decide +kernel
theorem dL_law_3 : decode cL_law 3 = .ok (.iload_n 1, 1) := by decide +kernel
theorem dL_law_4 : decode cL_law 4 = .ok (.invokevirtual 15, 3) := by decide +kernel
theorem dL_law_7 : decode cL_law 7 = .ok (.i2l, 1) := by decide +kernel
theorem dL_law_8 : decode cL_law 8 = .ok (.lastore, 1) := by decide +kernel
theorem dL_law_9 : decode cL_law 9 = .ok (.goto 6, 3) := by decide +kernel
theorem dL_law_12 : decode cL_law 12 = .ok (.astore_n 3, 1) := by decide +kernel
theorem dL_law_13 : decode cL_law 13 = .ok (.iconst 1, 1) := by decide +kernel
theorem dL_law_14 : decode cL_law 14 = .ok (.ireturn, 1) := by decide +kernel
theorem dL_law_15 : decode cL_law 15 = .ok (.iconst 0, 1) := by decide +kernel
theorem dL_law_16 : decode cL_law 16 = .ok (.ireturn, 1) := by decide +kernel
theorem dL_work_0 : decode cL_work 0 = .ok (.aload_n 2, 1) := by decide +kernel
theorem dL_work_1 : decode cL_work 1 = .ok (.iconst 0, 1) := by decide +kernel
theorem dL_work_2 : decode cL_work 2 = .ok (.aload_n 0, 1) := by decide +kernel
theorem dL_work_3 : decode cL_work 3 = .ok (.iload_n 1, 1) := by decide +kernel
theorem dL_work_4 : decode cL_work 4 = .ok (.invokevirtual 18, 3) := by decide +kernel
theorem dL_work_7 : decode cL_work 7 = .ok (.i2l, 1) := by decide +kernel
theorem dL_work_8 : decode cL_work 8 = .ok (.lastore, 1) := by decide +kernel
theorem dL_work_9 : decode cL_work 9 = .ok (.goto 6, 3) := by decide +kernel
theorem dL_work_12 : decode cL_work 12 = .ok (.astore_n 3, 1) := by decide +kernel
theorem dL_work_13 : decode cL_work 13 = .ok (.iconst 1, 1) := by decide +kernel
theorem dL_work_14 : decode cL_work 14 = .ok (.ireturn, 1) := by decide +kernel
theorem dL_work_15 : decode cL_work 15 = .ok (.iconst 0, 1) := by decide +kernel
theorem dL_work_16 : decode cL_work 16 = .ok (.ireturn, 1) := by decide +kernel
theorem dL_book_0 : decode cL_book 0 = .ok (.aload_n 2, 1) := by decide +kernel
theorem dL_book_1 : decode cL_book 1 = .ok (.iconst 0, 1) := by decide +kernel
theorem dL_book_2 : decode cL_book 2 = .ok (.aload_n 0, 1) := by decide +kernel
theorem dL_book_3 : decode cL_book 3 = .ok (.iload_n 1, 1) := by decide +kernel
theorem dL_book_4 : decode cL_book 4 = .ok (.invokevirtual 21, 3) := by decide +kernel
theorem dL_book_7 : decode cL_book 7 = .ok (.i2l, 1) := by decide +kernel
theorem dL_book_8 : decode cL_book 8 = .ok (.lastore, 1) := by decide +kernel
theorem dL_book_9 : decode cL_book 9 = .ok (.goto 6, 3) := by decide +kernel
theorem dL_book_12 : decode cL_book 12 = .ok (.astore_n 3, 1) := by decide +kernel
theorem dL_book_13 : decode cL_book 13 = .ok (.iconst 1, 1) := by decide +kernel
theorem dL_book_14 : decode cL_book 14 = .ok (.ireturn, 1) := by decide +kernel
theorem dL_book_15 : decode cL_book 15 = .ok (.iconst 0, 1) := by decide +kernel
theorem dL_book_16 : decode cL_book 16 = .ok (.ireturn, 1) := by decide +kernel
theorem dL_told_0 : decode cL_told 0 = .ok (.aload_n 2, 1) := by decide +kernel
theorem dL_told_1 : decode cL_told 1 = .ok (.iconst 0, 1) := by decide +kernel
theorem dL_told_2 : decode cL_told 2 = .ok (.aload_n 0, 1) := by decide +kernel
theorem dL_told_3 : decode cL_told 3 = .ok (.iload_n 1, 1) := by decide +kernel
theorem dL_told_4 : decode cL_told 4 = .ok (.invokevirtual 24, 3) := by decide +kernel
theorem dL_told_7 : decode cL_told 7 = .ok (.i2l, 1) := by decide +kernel
theorem dL_told_8 : decode cL_told 8 = .ok (.lastore, 1) := by decide +kernel
theorem dL_told_9 : decode cL_told 9 = .ok (.goto 6, 3) := by decide +kernel
theorem dL_told_12 : decode cL_told 12 = .ok (.astore_n 3, 1) := by decide +kernel
theorem dL_told_13 : decode cL_told 13 = .ok (.iconst 1, 1) := by decide +kernel
theorem dL_told_14 : decode cL_told 14 = .ok (.ireturn, 1) := by decide +kernel
theorem dL_told_15 : decode cL_told 15 = .ok (.iconst 0, 1) := by decide +kernel
theorem dL_told_16 : decode cL_told 16 = .ok (.ireturn, 1) := by decide +kernel
theorem dL_pane_0 : decode cL_pane 0 = .ok (.aload_n 3, 1) := by decide +kernel
theorem dL_pane_1 : decode cL_pane 1 = .ok (.iconst 0, 1) := by decide +kernel
theorem dL_pane_2 : decode cL_pane 2 = .ok (.aload_n 0, 1) := by decide +kernel
theorem dL_pane_3 : decode cL_pane 3 = .ok (.iload_n 1, 1) := by decide +kernel
theorem dL_pane_4 : decode cL_pane 4 = .ok (.iload_n 2, 1) := by decide +kernel
theorem dL_pane_5 : decode cL_pane 5 = .ok (.invokevirtual 27, 3) := by decide +kernel
theorem dL_pane_8 : decode cL_pane 8 = .ok (.i2l, 1) := by decide +kernel
theorem dL_pane_9 : decode cL_pane 9 = .ok (.lastore, 1) := by decide +kernel
theorem dL_pane_10 : decode cL_pane 10 = .ok (.goto 11, 3) := by decide +kernel
theorem dL_pane_13 : decode cL_pane 13 = .ok (.astore 4, 2) := by decide +kernel
theorem dL_pane_15 : decode cL_pane 15 = .ok (.iconst 1, 1) := by decide +kernel
theorem dL_pane_16 : decode cL_pane 16 = .ok (.ireturn, 1) := by decide +kernel
theorem dL_pane_17 : decode cL_pane 17 = .ok (.astore 4, 2) := by decide +kernel
theorem dL_pane_19 : decode cL_pane 19 = .ok (.iconst 2, 1) := by decide +kernel
theorem dL_pane_20 : decode cL_pane 20 = .ok (.ireturn, 1) := by decide +kernel
theorem dL_pane_21 : decode cL_pane 21 = .ok (.iconst 0, 1) := by decide +kernel
theorem dL_pane_22 : decode cL_pane 22 = .ok (.ireturn, 1) := by decide +kernel
theorem dL_shows_0 : decode cL_shows 0 = .ok (.aload 4, 2) := by decide +kernel
theorem dL_shows_2 : decode cL_shows 2 = .ok (.iconst 0, 1) := by decide +kernel
theorem dL_shows_3 : decode cL_shows 3 = .ok (.aload_n 0, 1) := by decide +kernel
theorem dL_shows_4 : decode cL_shows 4 = .ok (.iload_n 1, 1) := by decide +kernel
theorem dL_shows_5 : decode cL_shows 5 = .ok (.iload_n 2, 1) := by decide +kernel
theorem dL_shows_6 : decode cL_shows 6 = .ok (.iload_n 3, 1) := by decide +kernel
theorem dL_shows_7 : decode cL_shows 7 = .ok (.invokevirtual 33, 3) := by decide +kernel
theorem dL_shows_10 : decode cL_shows 10 = .ok (.i2l, 1) := by decide +kernel
theorem dL_shows_11 : decode cL_shows 11 = .ok (.lastore, 1) := by decide +kernel
theorem dL_shows_12 : decode cL_shows 12 = .ok (.goto 11, 3) := by decide +kernel
theorem dL_shows_15 : decode cL_shows 15 = .ok (.astore 5, 2) := by decide +kernel
theorem dL_shows_17 : decode cL_shows 17 = .ok (.iconst 1, 1) := by decide +kernel
theorem dL_shows_18 : decode cL_shows 18 = .ok (.ireturn, 1) := by decide +kernel
theorem dL_shows_19 : decode cL_shows 19 = .ok (.astore 5, 2) := by decide +kernel
theorem dL_shows_21 : decode cL_shows 21 = .ok (.iconst 2, 1) := by decide +kernel
theorem dL_shows_22 : decode cL_shows 22 = .ok (.ireturn, 1) := by decide +kernel
theorem dL_shows_23 : decode cL_shows 23 = .ok (.iconst 0, 1) := by decide +kernel
theorem dL_shows_24 : decode cL_shows 24 = .ok (.ireturn, 1) := by decide +kernel
theorem dL_deep_0 : decode cL_deep 0 = .ok (.aload 4, 2) := by decide +kernel
theorem dL_deep_2 : decode cL_deep 2 = .ok (.iconst 0, 1) := by decide +kernel
theorem dL_deep_3 : decode cL_deep 3 = .ok (.aload_n 0, 1) := by decide +kernel
theorem dL_deep_4 : decode cL_deep 4 = .ok (.iload_n 1, 1) := by decide +kernel
theorem dL_deep_5 : decode cL_deep 5 = .ok (.iload_n 2, 1) := by decide +kernel
theorem dL_deep_6 : decode cL_deep 6 = .ok (.iload_n 3, 1) := by decide +kernel
theorem dL_deep_7 : decode cL_deep 7 = .ok (.invokevirtual 39, 3) := by decide +kernel
theorem dL_deep_10 : decode cL_deep 10 = .ok (.i2l, 1) := by decide +kernel
theorem dL_deep_11 : decode cL_deep 11 = .ok (.lastore, 1) := by decide +kernel
theorem dL_deep_12 : decode cL_deep 12 = .ok (.goto 11, 3) := by decide +kernel
theorem dL_deep_15 : decode cL_deep 15 = .ok (.astore 5, 2) := by decide +kernel
theorem dL_deep_17 : decode cL_deep 17 = .ok (.iconst 1, 1) := by decide +kernel
theorem dL_deep_18 : decode cL_deep 18 = .ok (.ireturn, 1) := by decide +kernel
theorem dL_deep_19 : decode cL_deep 19 = .ok (.astore 5, 2) := by decide +kernel
theorem dL_deep_21 : decode cL_deep 21 = .ok (.iconst 2, 1) := by decide +kernel
theorem dL_deep_22 : decode cL_deep 22 = .ok (.ireturn, 1) := by decide +kernel
theorem dL_deep_23 : decode cL_deep 23 = .ok (.iconst 0, 1) := by decide +kernel
theorem dL_deep_24 : decode cL_deep 24 = .ok (.ireturn, 1) := by decide +kernel
theorem dL_film_0 : decode cL_film 0 = .ok (.aload 5, 2) := by decide +kernel
theorem dL_film_2 : decode cL_film 2 = .ok (.iconst 0, 1) := by decide +kernel
theorem dL_film_3 : decode cL_film 3 = .ok (.aload_n 0, 1) := by decide +kernel
theorem dL_film_4 : decode cL_film 4 = .ok (.iload_n 1, 1) := by decide +kernel
theorem dL_film_5 : decode cL_film 5 = .ok (.iload_n 2, 1) := by decide +kernel
theorem dL_film_6 : decode cL_film 6 = .ok (.iload_n 3, 1) := by decide +kernel
theorem dL_film_7 : decode cL_film 7 = .ok (.iload 4, 2) := by decide +kernel
theorem dL_film_9 : decode cL_film 9 = .ok (.invokevirtual 42, 3) := by decide +kernel
theorem dL_film_12 : decode cL_film 12 = .ok (.i2l, 1) := by decide +kernel
theorem dL_film_13 : decode cL_film 13 = .ok (.lastore, 1) := by decide +kernel
theorem dL_film_14 : decode cL_film 14 = .ok (.goto 11, 3) := by decide +kernel
theorem dL_film_17 : decode cL_film 17 = .ok (.astore 6, 2) := by decide +kernel
theorem dL_film_19 : decode cL_film 19 = .ok (.iconst 1, 1) := by decide +kernel
theorem dL_film_20 : decode cL_film 20 = .ok (.ireturn, 1) := by decide +kernel
theorem dL_film_21 : decode cL_film 21 = .ok (.astore 6, 2) := by decide +kernel
theorem dL_film_23 : decode cL_film 23 = .ok (.iconst 2, 1) := by decide +kernel
theorem dL_film_24 : decode cL_film 24 = .ok (.ireturn, 1) := by decide +kernel
theorem dL_film_25 : decode cL_film 25 = .ok (.iconst 0, 1) := by decide +kernel
theorem dL_film_26 : decode cL_film 26 = .ok (.ireturn, 1) := by decide +kernel
theorem dL_films_0 : decode cL_films 0 = .ok (.aload_n 3, 1) := by decide +kernel
theorem dL_films_1 : decode cL_films 1 = .ok (.iconst 0, 1) := by decide +kernel
theorem dL_films_2 : decode cL_films 2 = .ok (.aload_n 0, 1) := by decide +kernel
theorem dL_films_3 : decode cL_films 3 = .ok (.iload_n 1, 1) := by decide +kernel
theorem dL_films_4 : decode cL_films 4 = .ok (.iload_n 2, 1) := by decide +kernel
theorem dL_films_5 : decode cL_films 5 = .ok (.invokevirtual 46, 3) := by decide +kernel
theorem dL_films_8 : decode cL_films 8 = .ok (.i2l, 1) := by decide +kernel
theorem dL_films_9 : decode cL_films 9 = .ok (.lastore, 1) := by decide +kernel
theorem dL_films_10 : decode cL_films 10 = .ok (.goto 7, 3) := by decide +kernel
theorem dL_films_13 : decode cL_films 13 = .ok (.astore 4, 2) := by decide +kernel
theorem dL_films_15 : decode cL_films 15 = .ok (.iconst 1, 1) := by decide +kernel
theorem dL_films_16 : decode cL_films 16 = .ok (.ireturn, 1) := by decide +kernel
theorem dL_films_17 : decode cL_films 17 = .ok (.iconst 0, 1) := by decide +kernel
theorem dL_films_18 : decode cL_films 18 = .ok (.ireturn, 1) := by decide +kernel
theorem dL_have_0 : decode cL_have 0 = .ok (.aload_n 3, 1) := by decide +kernel
theorem dL_have_1 : decode cL_have 1 = .ok (.iconst 0, 1) := by decide +kernel
theorem dL_have_2 : decode cL_have 2 = .ok (.aload_n 0, 1) := by decide +kernel
theorem dL_have_3 : decode cL_have 3 = .ok (.iload_n 1, 1) := by decide +kernel
theorem dL_have_4 : decode cL_have 4 = .ok (.iload_n 2, 1) := by decide +kernel
theorem dL_have_5 : decode cL_have 5 = .ok (.invokevirtual 49, 3) := by decide +kernel
theorem dL_have_8 : decode cL_have 8 = .ok (.i2l, 1) := by decide +kernel
theorem dL_have_9 : decode cL_have 9 = .ok (.lastore, 1) := by decide +kernel
theorem dL_have_10 : decode cL_have 10 = .ok (.goto 11, 3) := by decide +kernel
theorem dL_have_13 : decode cL_have 13 = .ok (.astore 4, 2) := by decide +kernel
theorem dL_have_15 : decode cL_have 15 = .ok (.iconst 1, 1) := by decide +kernel
theorem dL_have_16 : decode cL_have 16 = .ok (.ireturn, 1) := by decide +kernel
theorem dL_have_17 : decode cL_have 17 = .ok (.astore 4, 2) := by decide +kernel
theorem dL_have_19 : decode cL_have 19 = .ok (.iconst 2, 1) := by decide +kernel
theorem dL_have_20 : decode cL_have 20 = .ok (.ireturn, 1) := by decide +kernel
theorem dL_have_21 : decode cL_have 21 = .ok (.iconst 0, 1) := by decide +kernel
theorem dL_have_22 : decode cL_have 22 = .ok (.ireturn, 1) := by decide +kernel
theorem dL_showing_0 : decode cL_showing 0 = .ok (.aload_n 3, 1) := by decide +kernel
theorem dL_showing_1 : decode cL_showing 1 = .ok (.iconst 0, 1) := by decide +kernel
theorem dL_showing_2 : decode cL_showing 2 = .ok (.aload_n 0, 1) := by decide +kernel
theorem dL_showing_3 : decode cL_showing 3 = .ok (.iload_n 1, 1) := by decide +kernel
theorem dL_showing_4 : decode cL_showing 4 = .ok (.iload_n 2, 1) := by decide +kernel
theorem dL_showing_5 : decode cL_showing 5 = .ok (.invokevirtual 52, 3) := by decide +kernel
theorem dL_showing_8 : decode cL_showing 8 = .ok (.i2l, 1) := by decide +kernel
theorem dL_showing_9 : decode cL_showing 9 = .ok (.lastore, 1) := by decide +kernel
theorem dL_showing_10 : decode cL_showing 10 = .ok (.goto 11, 3) := by decide +kernel
theorem dL_showing_13 : decode cL_showing 13 = .ok (.astore 4, 2) := by decide +kernel
theorem dL_showing_15 : decode cL_showing 15 = .ok (.iconst 1, 1) := by decide +kernel
theorem dL_showing_16 : decode cL_showing 16 = .ok (.ireturn, 1) := by decide +kernel
theorem dL_showing_17 : decode cL_showing 17 = .ok (.astore 4, 2) := by decide +kernel
theorem dL_showing_19 : decode cL_showing 19 = .ok (.iconst 2, 1) := by decide +kernel
theorem dL_showing_20 : decode cL_showing 20 = .ok (.ireturn, 1) := by decide +kernel
theorem dL_showing_21 : decode cL_showing 21 = .ok (.iconst 0, 1) := by decide +kernel
theorem dL_showing_22 : decode cL_showing 22 = .ok (.ireturn, 1) := by decide +kernel
theorem dL_settles_0 : decode cL_settles 0 = .ok (.aload 4, 2) := by decide +kernel
theorem dL_settles_2 : decode cL_settles 2 = .ok (.iconst 0, 1) := by decide +kernel
theorem dL_settles_3 : decode cL_settles 3 = .ok (.aload_n 0, 1) := by decide +kernel
theorem dL_settles_4 : decode cL_settles 4 = .ok (.iload_n 1, 1) := by decide +kernel
theorem dL_settles_5 : decode cL_settles 5 = .ok (.iload_n 2, 1) := by decide +kernel
theorem dL_settles_6 : decode cL_settles 6 = .ok (.iload_n 3, 1) := by decide +kernel
theorem dL_settles_7 : decode cL_settles 7 = .ok (.invokevirtual 55, 3) := by decide +kernel
theorem dL_settles_10 : decode cL_settles 10 = .ok (.ifCond .eq 7, 3) := by decide +kernel
theorem dL_settles_13 : decode cL_settles 13 = .ok (.lconst 1, 1) := by decide +kernel
theorem dL_settles_14 : decode cL_settles 14 = .ok (.goto 4, 3) := by decide +kernel
theorem dL_settles_17 : decode cL_settles 17 = .ok (.lconst 0, 1) := by decide +kernel
theorem dL_settles_18 : decode cL_settles 18 = .ok (.lastore, 1) := by decide +kernel
theorem dL_settles_19 : decode cL_settles 19 = .ok (.goto 11, 3) := by decide +kernel
theorem dL_settles_22 : decode cL_settles 22 = .ok (.astore 5, 2) := by decide +kernel
theorem dL_settles_24 : decode cL_settles 24 = .ok (.iconst 1, 1) := by decide +kernel
theorem dL_settles_25 : decode cL_settles 25 = .ok (.ireturn, 1) := by decide +kernel
theorem dL_settles_26 : decode cL_settles 26 = .ok (.astore 5, 2) := by decide +kernel
theorem dL_settles_28 : decode cL_settles 28 = .ok (.iconst 2, 1) := by decide +kernel
theorem dL_settles_29 : decode cL_settles 29 = .ok (.ireturn, 1) := by decide +kernel
theorem dL_settles_30 : decode cL_settles 30 = .ok (.iconst 0, 1) := by decide +kernel
theorem dL_settles_31 : decode cL_settles 31 = .ok (.ireturn, 1) := by decide +kernel
theorem dL_order_0 : decode cL_order 0 = .ok (.aload_n 3, 1) := by decide +kernel
theorem dL_order_1 : decode cL_order 1 = .ok (.iconst 0, 1) := by decide +kernel
theorem dL_order_2 : decode cL_order 2 = .ok (.aload_n 0, 1) := by decide +kernel
theorem dL_order_3 : decode cL_order 3 = .ok (.iload_n 1, 1) := by decide +kernel
theorem dL_order_4 : decode cL_order 4 = .ok (.iload_n 2, 1) := by decide +kernel
theorem dL_order_5 : decode cL_order 5 = .ok (.invokevirtual 59, 3) := by decide +kernel
theorem dL_order_8 : decode cL_order 8 = .ok (.i2l, 1) := by decide +kernel
theorem dL_order_9 : decode cL_order 9 = .ok (.lastore, 1) := by decide +kernel
theorem dL_order_10 : decode cL_order 10 = .ok (.goto 11, 3) := by decide +kernel
theorem dL_order_13 : decode cL_order 13 = .ok (.astore 4, 2) := by decide +kernel
theorem dL_order_15 : decode cL_order 15 = .ok (.iconst 1, 1) := by decide +kernel
theorem dL_order_16 : decode cL_order 16 = .ok (.ireturn, 1) := by decide +kernel
theorem dL_order_17 : decode cL_order 17 = .ok (.astore 4, 2) := by decide +kernel
theorem dL_order_19 : decode cL_order 19 = .ok (.iconst 2, 1) := by decide +kernel
theorem dL_order_20 : decode cL_order 20 = .ok (.ireturn, 1) := by decide +kernel
theorem dL_order_21 : decode cL_order 21 = .ok (.iconst 0, 1) := by decide +kernel
theorem dL_order_22 : decode cL_order 22 = .ok (.ireturn, 1) := by decide +kernel
theorem dL_needs_0 : decode cL_needs 0 = .ok (.aload_n 2, 1) := by decide +kernel
theorem dL_needs_1 : decode cL_needs 1 = .ok (.iconst 0, 1) := by decide +kernel
theorem dL_needs_2 : decode cL_needs 2 = .ok (.aload_n 0, 1) := by decide +kernel
theorem dL_needs_3 : decode cL_needs 3 = .ok (.iload_n 1, 1) := by decide +kernel
theorem dL_needs_4 : decode cL_needs 4 = .ok (.invokevirtual 62, 3) := by decide +kernel
theorem dL_needs_7 : decode cL_needs 7 = .ok (.i2l, 1) := by decide +kernel
theorem dL_needs_8 : decode cL_needs 8 = .ok (.lastore, 1) := by decide +kernel
theorem dL_needs_9 : decode cL_needs 9 = .ok (.goto 6, 3) := by decide +kernel
theorem dL_needs_12 : decode cL_needs 12 = .ok (.astore_n 3, 1) := by decide +kernel
theorem dL_needs_13 : decode cL_needs 13 = .ok (.iconst 1, 1) := by decide +kernel
theorem dL_needs_14 : decode cL_needs 14 = .ok (.ireturn, 1) := by decide +kernel
theorem dL_needs_15 : decode cL_needs 15 = .ok (.iconst 0, 1) := by decide +kernel
theorem dL_needs_16 : decode cL_needs 16 = .ok (.ireturn, 1) := by decide +kernel
theorem dL_cost_0 : decode cL_cost 0 = .ok (.aload 4, 2) := by decide +kernel
theorem dL_cost_2 : decode cL_cost 2 = .ok (.iconst 0, 1) := by decide +kernel
theorem dL_cost_3 : decode cL_cost 3 = .ok (.aload_n 0, 1) := by decide +kernel
theorem dL_cost_4 : decode cL_cost 4 = .ok (.iload_n 1, 1) := by decide +kernel
theorem dL_cost_5 : decode cL_cost 5 = .ok (.iload_n 2, 1) := by decide +kernel
theorem dL_cost_6 : decode cL_cost 6 = .ok (.iload_n 3, 1) := by decide +kernel
theorem dL_cost_7 : decode cL_cost 7 = .ok (.invokevirtual 65, 3) := by decide +kernel
theorem dL_cost_10 : decode cL_cost 10 = .ok (.i2l, 1) := by decide +kernel
theorem dL_cost_11 : decode cL_cost 11 = .ok (.lastore, 1) := by decide +kernel
theorem dL_cost_12 : decode cL_cost 12 = .ok (.goto 11, 3) := by decide +kernel
theorem dL_cost_15 : decode cL_cost 15 = .ok (.astore 5, 2) := by decide +kernel
theorem dL_cost_17 : decode cL_cost 17 = .ok (.iconst 1, 1) := by decide +kernel
theorem dL_cost_18 : decode cL_cost 18 = .ok (.ireturn, 1) := by decide +kernel
theorem dL_cost_19 : decode cL_cost 19 = .ok (.astore 5, 2) := by decide +kernel
theorem dL_cost_21 : decode cL_cost 21 = .ok (.iconst 2, 1) := by decide +kernel
theorem dL_cost_22 : decode cL_cost 22 = .ok (.ireturn, 1) := by decide +kernel
theorem dL_cost_23 : decode cL_cost 23 = .ok (.iconst 0, 1) := by decide +kernel
theorem dL_cost_24 : decode cL_cost 24 = .ok (.ireturn, 1) := by decide +kernel
theorem dL_view_0 : decode cL_view 0 = .ok (.aload 4, 2) := by decide +kernel
theorem dL_view_2 : decode cL_view 2 = .ok (.iconst 0, 1) := by decide +kernel
theorem dL_view_3 : decode cL_view 3 = .ok (.aload_n 0, 1) := by decide +kernel
theorem dL_view_4 : decode cL_view 4 = .ok (.iload_n 1, 1) := by decide +kernel
theorem dL_view_5 : decode cL_view 5 = .ok (.iload_n 2, 1) := by decide +kernel
theorem dL_view_6 : decode cL_view 6 = .ok (.iload_n 3, 1) := by decide +kernel
theorem dL_view_7 : decode cL_view 7 = .ok (.invokevirtual 68, 3) := by decide +kernel
theorem dL_view_10 : decode cL_view 10 = .ok (.i2l, 1) := by decide +kernel
theorem dL_view_11 : decode cL_view 11 = .ok (.lastore, 1) := by decide +kernel
theorem dL_view_12 : decode cL_view 12 = .ok (.goto 11, 3) := by decide +kernel
theorem dL_view_15 : decode cL_view 15 = .ok (.astore 5, 2) := by decide +kernel
theorem dL_view_17 : decode cL_view 17 = .ok (.iconst 1, 1) := by decide +kernel
theorem dL_view_18 : decode cL_view 18 = .ok (.ireturn, 1) := by decide +kernel
theorem dL_view_19 : decode cL_view 19 = .ok (.astore 5, 2) := by decide +kernel
theorem dL_view_21 : decode cL_view 21 = .ok (.iconst 2, 1) := by decide +kernel
theorem dL_view_22 : decode cL_view 22 = .ok (.ireturn, 1) := by decide +kernel
theorem dL_view_23 : decode cL_view 23 = .ok (.iconst 0, 1) := by decide +kernel
theorem dL_view_24 : decode cL_view 24 = .ok (.ireturn, 1) := by decide +kernel
theorem dL_seams_0 : decode cL_seams 0 = .ok (.aload_n 2, 1) := by decide +kernel
theorem dL_seams_1 : decode cL_seams 1 = .ok (.iconst 0, 1) := by decide +kernel
theorem dL_seams_2 : decode cL_seams 2 = .ok (.aload_n 0, 1) := by decide +kernel
theorem dL_seams_3 : decode cL_seams 3 = .ok (.iload_n 1, 1) := by decide +kernel
theorem dL_seams_4 : decode cL_seams 4 = .ok (.invokevirtual 71, 3) := by decide +kernel
theorem dL_seams_7 : decode cL_seams 7 = .ok (.i2l, 1) := by decide +kernel
theorem dL_seams_8 : decode cL_seams 8 = .ok (.lastore, 1) := by decide +kernel
theorem dL_seams_9 : decode cL_seams 9 = .ok (.goto 6, 3) := by decide +kernel
theorem dL_seams_12 : decode cL_seams 12 = .ok (.astore_n 3, 1) := by decide +kernel
theorem dL_seams_13 : decode cL_seams 13 = .ok (.iconst 1, 1) := by decide +kernel
theorem dL_seams_14 : decode cL_seams 14 = .ok (.ireturn, 1) := by decide +kernel
theorem dL_seams_15 : decode cL_seams 15 = .ok (.iconst 0, 1) := by decide +kernel
theorem dL_seams_16 : decode cL_seams 16 = .ok (.ireturn, 1) := by decide +kernel
theorem dL_sights_0 : decode cL_sights 0 = .ok (.aload_n 2, 1) := by decide +kernel
theorem dL_sights_1 : decode cL_sights 1 = .ok (.iconst 0, 1) := by decide +kernel
theorem dL_sights_2 : decode cL_sights 2 = .ok (.aload_n 0, 1) := by decide +kernel
theorem dL_sights_3 : decode cL_sights 3 = .ok (.iload_n 1, 1) := by decide +kernel
theorem dL_sights_4 : decode cL_sights 4 = .ok (.invokevirtual 74, 3) := by decide +kernel
theorem dL_sights_7 : decode cL_sights 7 = .ok (.i2l, 1) := by decide +kernel
theorem dL_sights_8 : decode cL_sights 8 = .ok (.lastore, 1) := by decide +kernel
theorem dL_sights_9 : decode cL_sights 9 = .ok (.goto 6, 3) := by decide +kernel
theorem dL_sights_12 : decode cL_sights 12 = .ok (.astore_n 3, 1) := by decide +kernel
theorem dL_sights_13 : decode cL_sights 13 = .ok (.iconst 1, 1) := by decide +kernel
theorem dL_sights_14 : decode cL_sights 14 = .ok (.ireturn, 1) := by decide +kernel
theorem dL_sights_15 : decode cL_sights 15 = .ok (.iconst 0, 1) := by decide +kernel
theorem dL_sights_16 : decode cL_sights 16 = .ok (.ireturn, 1) := by decide +kernel
theorem dL_alike_0 : decode cL_alike 0 = .ok (.aload_n 3, 1) := by decide +kernel
theorem dL_alike_1 : decode cL_alike 1 = .ok (.iconst 0, 1) := by decide +kernel
theorem dL_alike_2 : decode cL_alike 2 = .ok (.aload_n 0, 1) := by decide +kernel
theorem dL_alike_3 : decode cL_alike 3 = .ok (.iload_n 1, 1) := by decide +kernel
theorem dL_alike_4 : decode cL_alike 4 = .ok (.iload_n 2, 1) := by decide +kernel
theorem dL_alike_5 : decode cL_alike 5 = .ok (.invokevirtual 77, 3) := by decide +kernel
theorem dL_alike_8 : decode cL_alike 8 = .ok (.i2l, 1) := by decide +kernel
theorem dL_alike_9 : decode cL_alike 9 = .ok (.lastore, 1) := by decide +kernel
theorem dL_alike_10 : decode cL_alike 10 = .ok (.goto 7, 3) := by decide +kernel
theorem dL_alike_13 : decode cL_alike 13 = .ok (.astore 4, 2) := by decide +kernel
theorem dL_alike_15 : decode cL_alike 15 = .ok (.iconst 1, 1) := by decide +kernel
theorem dL_alike_16 : decode cL_alike 16 = .ok (.ireturn, 1) := by decide +kernel
theorem dL_alike_17 : decode cL_alike 17 = .ok (.iconst 0, 1) := by decide +kernel
theorem dL_alike_18 : decode cL_alike 18 = .ok (.ireturn, 1) := by decide +kernel
theorem dL_oldest_0 : decode cL_oldest 0 = .ok (.aload_n 3, 1) := by decide +kernel
theorem dL_oldest_1 : decode cL_oldest 1 = .ok (.iconst 0, 1) := by decide +kernel
theorem dL_oldest_2 : decode cL_oldest 2 = .ok (.aload_n 0, 1) := by decide +kernel
theorem dL_oldest_3 : decode cL_oldest 3 = .ok (.iload_n 1, 1) := by decide +kernel
theorem dL_oldest_4 : decode cL_oldest 4 = .ok (.iload_n 2, 1) := by decide +kernel
theorem dL_oldest_5 : decode cL_oldest 5 = .ok (.invokevirtual 80, 3) := by decide +kernel
theorem dL_oldest_8 : decode cL_oldest 8 = .ok (.i2l, 1) := by decide +kernel
theorem dL_oldest_9 : decode cL_oldest 9 = .ok (.lastore, 1) := by decide +kernel
theorem dL_oldest_10 : decode cL_oldest 10 = .ok (.goto 11, 3) := by decide +kernel
theorem dL_oldest_13 : decode cL_oldest 13 = .ok (.astore 4, 2) := by decide +kernel
theorem dL_oldest_15 : decode cL_oldest 15 = .ok (.iconst 1, 1) := by decide +kernel
theorem dL_oldest_16 : decode cL_oldest 16 = .ok (.ireturn, 1) := by decide +kernel
theorem dL_oldest_17 : decode cL_oldest 17 = .ok (.astore 4, 2) := by decide +kernel
theorem dL_oldest_19 : decode cL_oldest 19 = .ok (.iconst 2, 1) := by decide +kernel
theorem dL_oldest_20 : decode cL_oldest 20 = .ok (.ireturn, 1) := by decide +kernel
theorem dL_oldest_21 : decode cL_oldest 21 = .ok (.iconst 0, 1) := by decide +kernel
theorem dL_oldest_22 : decode cL_oldest 22 = .ok (.ireturn, 1) := by decide +kernel
theorem dL_patch_0 : decode cL_patch 0 = .ok (.aload_n 3, 1) := by decide +kernel
theorem dL_patch_1 : decode cL_patch 1 = .ok (.iconst 0, 1) := by decide +kernel
theorem dL_patch_2 : decode cL_patch 2 = .ok (.aload_n 0, 1) := by decide +kernel
theorem dL_patch_3 : decode cL_patch 3 = .ok (.iload_n 1, 1) := by decide +kernel
theorem dL_patch_4 : decode cL_patch 4 = .ok (.iload_n 2, 1) := by decide +kernel
theorem dL_patch_5 : decode cL_patch 5 = .ok (.invokevirtual 83, 3) := by decide +kernel
theorem dL_patch_8 : decode cL_patch 8 = .ok (.i2l, 1) := by decide +kernel
theorem dL_patch_9 : decode cL_patch 9 = .ok (.lastore, 1) := by decide +kernel
theorem dL_patch_10 : decode cL_patch 10 = .ok (.goto 11, 3) := by decide +kernel
theorem dL_patch_13 : decode cL_patch 13 = .ok (.astore 4, 2) := by decide +kernel
theorem dL_patch_15 : decode cL_patch 15 = .ok (.iconst 1, 1) := by decide +kernel
theorem dL_patch_16 : decode cL_patch 16 = .ok (.ireturn, 1) := by decide +kernel
theorem dL_patch_17 : decode cL_patch 17 = .ok (.astore 4, 2) := by decide +kernel
theorem dL_patch_19 : decode cL_patch 19 = .ok (.iconst 2, 1) := by decide +kernel
theorem dL_patch_20 : decode cL_patch 20 = .ok (.ireturn, 1) := by decide +kernel
theorem dL_patch_21 : decode cL_patch 21 = .ok (.iconst 0, 1) := by decide +kernel
theorem dL_patch_22 : decode cL_patch 22 = .ok (.ireturn, 1) := by decide +kernel
theorem dL_tells_0 : decode cL_tells 0 = .ok (.aload_n 2, 1) := by decide +kernel
theorem dL_tells_1 : decode cL_tells 1 = .ok (.iconst 0, 1) := by decide +kernel
theorem dL_tells_2 : decode cL_tells 2 = .ok (.aload_n 0, 1) := by decide +kernel
theorem dL_tells_3 : decode cL_tells 3 = .ok (.iload_n 1, 1) := by decide +kernel
theorem dL_tells_4 : decode cL_tells 4 = .ok (.invokevirtual 86, 3) := by decide +kernel
theorem dL_tells_7 : decode cL_tells 7 = .ok (.i2l, 1) := by decide +kernel
theorem dL_tells_8 : decode cL_tells 8 = .ok (.lastore, 1) := by decide +kernel
theorem dL_tells_9 : decode cL_tells 9 = .ok (.goto 6, 3) := by decide +kernel
theorem dL_tells_12 : decode cL_tells 12 = .ok (.astore_n 3, 1) := by decide +kernel
theorem dL_tells_13 : decode cL_tells 13 = .ok (.iconst 1, 1) := by decide +kernel
theorem dL_tells_14 : decode cL_tells 14 = .ok (.ireturn, 1) := by decide +kernel
theorem dL_tells_15 : decode cL_tells 15 = .ok (.iconst 0, 1) := by decide +kernel
theorem dL_tells_16 : decode cL_tells 16 = .ok (.ireturn, 1) := by decide +kernel
theorem dL_look_0 : decode cL_look 0 = .ok (.aload_n 3, 1) := by decide +kernel
theorem dL_look_1 : decode cL_look 1 = .ok (.iconst 0, 1) := by decide +kernel
theorem dL_look_2 : decode cL_look 2 = .ok (.aload_n 0, 1) := by decide +kernel
theorem dL_look_3 : decode cL_look 3 = .ok (.iload_n 1, 1) := by decide +kernel
theorem dL_look_4 : decode cL_look 4 = .ok (.iload_n 2, 1) := by decide +kernel
theorem dL_look_5 : decode cL_look 5 = .ok (.invokevirtual 89, 3) := by decide +kernel
theorem dL_look_8 : decode cL_look 8 = .ok (.i2l, 1) := by decide +kernel
theorem dL_look_9 : decode cL_look 9 = .ok (.lastore, 1) := by decide +kernel
theorem dL_look_10 : decode cL_look 10 = .ok (.goto 11, 3) := by decide +kernel
theorem dL_look_13 : decode cL_look 13 = .ok (.astore 4, 2) := by decide +kernel
theorem dL_look_15 : decode cL_look 15 = .ok (.iconst 1, 1) := by decide +kernel
theorem dL_look_16 : decode cL_look 16 = .ok (.ireturn, 1) := by decide +kernel
theorem dL_look_17 : decode cL_look 17 = .ok (.astore 4, 2) := by decide +kernel
theorem dL_look_19 : decode cL_look 19 = .ok (.iconst 2, 1) := by decide +kernel
theorem dL_look_20 : decode cL_look 20 = .ok (.ireturn, 1) := by decide +kernel
theorem dL_look_21 : decode cL_look 21 = .ok (.iconst 0, 1) := by decide +kernel
theorem dL_look_22 : decode cL_look 22 = .ok (.ireturn, 1) := by decide +kernel
theorem dL_cover_0 : decode cL_cover 0 = .ok (.aload 5, 2) := by decide +kernel
theorem dL_cover_2 : decode cL_cover 2 = .ok (.iconst 0, 1) := by decide +kernel
theorem dL_cover_3 : decode cL_cover 3 = .ok (.aload_n 0, 1) := by decide +kernel
theorem dL_cover_4 : decode cL_cover 4 = .ok (.iload_n 1, 1) := by decide +kernel
theorem dL_cover_5 : decode cL_cover 5 = .ok (.iload_n 2, 1) := by decide +kernel
theorem dL_cover_6 : decode cL_cover 6 = .ok (.iload_n 3, 1) := by decide +kernel
theorem dL_cover_7 : decode cL_cover 7 = .ok (.iload 4, 2) := by decide +kernel
theorem dL_cover_9 : decode cL_cover 9 = .ok (.invokevirtual 92, 3) := by decide +kernel
theorem dL_cover_12 : decode cL_cover 12 = .ok (.i2l, 1) := by decide +kernel
theorem dL_cover_13 : decode cL_cover 13 = .ok (.lastore, 1) := by decide +kernel
theorem dL_cover_14 : decode cL_cover 14 = .ok (.goto 11, 3) := by decide +kernel
theorem dL_cover_17 : decode cL_cover 17 = .ok (.astore 6, 2) := by decide +kernel
theorem dL_cover_19 : decode cL_cover 19 = .ok (.iconst 1, 1) := by decide +kernel
theorem dL_cover_20 : decode cL_cover 20 = .ok (.ireturn, 1) := by decide +kernel
theorem dL_cover_21 : decode cL_cover 21 = .ok (.astore 6, 2) := by decide +kernel
theorem dL_cover_23 : decode cL_cover 23 = .ok (.iconst 2, 1) := by decide +kernel
theorem dL_cover_24 : decode cL_cover 24 = .ok (.ireturn, 1) := by decide +kernel
theorem dL_cover_25 : decode cL_cover 25 = .ok (.iconst 0, 1) := by decide +kernel
theorem dL_cover_26 : decode cL_cover 26 = .ok (.ireturn, 1) := by decide +kernel
theorem dL_game_0 : decode cL_game 0 = .ok (.aload 4, 2) := by decide +kernel
theorem dL_game_2 : decode cL_game 2 = .ok (.iconst 0, 1) := by decide +kernel
theorem dL_game_3 : decode cL_game 3 = .ok (.aload_n 0, 1) := by decide +kernel
theorem dL_game_4 : decode cL_game 4 = .ok (.iload_n 1, 1) := by decide +kernel
theorem dL_game_5 : decode cL_game 5 = .ok (.iload_n 2, 1) := by decide +kernel
theorem dL_game_6 : decode cL_game 6 = .ok (.iload_n 3, 1) := by decide +kernel
theorem dL_game_7 : decode cL_game 7 = .ok (.invokevirtual 95, 3) := by decide +kernel
theorem dL_game_10 : decode cL_game 10 = .ok (.i2l, 1) := by decide +kernel
theorem dL_game_11 : decode cL_game 11 = .ok (.lastore, 1) := by decide +kernel
theorem dL_game_12 : decode cL_game 12 = .ok (.goto 11, 3) := by decide +kernel
theorem dL_game_15 : decode cL_game 15 = .ok (.astore 5, 2) := by decide +kernel
theorem dL_game_17 : decode cL_game 17 = .ok (.iconst 1, 1) := by decide +kernel
theorem dL_game_18 : decode cL_game 18 = .ok (.ireturn, 1) := by decide +kernel
theorem dL_game_19 : decode cL_game 19 = .ok (.astore 5, 2) := by decide +kernel
theorem dL_game_21 : decode cL_game 21 = .ok (.iconst 2, 1) := by decide +kernel
theorem dL_game_22 : decode cL_game 22 = .ok (.ireturn, 1) := by decide +kernel
theorem dL_game_23 : decode cL_game 23 = .ok (.iconst 0, 1) := by decide +kernel
theorem dL_game_24 : decode cL_game 24 = .ok (.ireturn, 1) := by decide +kernel
theorem dL_round_0 : decode cL_round 0 = .ok (.aload_n 3, 1) := by decide +kernel
theorem dL_round_1 : decode cL_round 1 = .ok (.iconst 0, 1) := by decide +kernel
theorem dL_round_2 : decode cL_round 2 = .ok (.aload_n 0, 1) := by decide +kernel
theorem dL_round_3 : decode cL_round 3 = .ok (.iload_n 1, 1) := by decide +kernel
theorem dL_round_4 : decode cL_round 4 = .ok (.iload_n 2, 1) := by decide +kernel
theorem dL_round_5 : decode cL_round 5 = .ok (.invokevirtual 98, 3) := by decide +kernel
theorem dL_round_8 : decode cL_round 8 = .ok (.i2l, 1) := by decide +kernel
theorem dL_round_9 : decode cL_round 9 = .ok (.lastore, 1) := by decide +kernel
theorem dL_round_10 : decode cL_round 10 = .ok (.goto 7, 3) := by decide +kernel
theorem dL_round_13 : decode cL_round 13 = .ok (.astore 4, 2) := by decide +kernel
theorem dL_round_15 : decode cL_round 15 = .ok (.iconst 1, 1) := by decide +kernel
theorem dL_round_16 : decode cL_round 16 = .ok (.ireturn, 1) := by decide +kernel
theorem dL_round_17 : decode cL_round 17 = .ok (.iconst 0, 1) := by decide +kernel
theorem dL_round_18 : decode cL_round 18 = .ok (.ireturn, 1) := by decide +kernel
theorem dL_by_0 : decode cL_by 0 = .ok (.aload_n 3, 1) := by decide +kernel
theorem dL_by_1 : decode cL_by 1 = .ok (.iconst 0, 1) := by decide +kernel
theorem dL_by_2 : decode cL_by 2 = .ok (.aload_n 0, 1) := by decide +kernel
theorem dL_by_3 : decode cL_by 3 = .ok (.iload_n 1, 1) := by decide +kernel
theorem dL_by_4 : decode cL_by 4 = .ok (.iload_n 2, 1) := by decide +kernel
theorem dL_by_5 : decode cL_by 5 = .ok (.invokevirtual 101, 3) := by decide +kernel
theorem dL_by_8 : decode cL_by 8 = .ok (.ifCond .eq 7, 3) := by decide +kernel
theorem dL_by_11 : decode cL_by 11 = .ok (.lconst 1, 1) := by decide +kernel
theorem dL_by_12 : decode cL_by 12 = .ok (.goto 4, 3) := by decide +kernel
theorem dL_by_15 : decode cL_by 15 = .ok (.lconst 0, 1) := by decide +kernel
theorem dL_by_16 : decode cL_by 16 = .ok (.lastore, 1) := by decide +kernel
theorem dL_by_17 : decode cL_by 17 = .ok (.goto 7, 3) := by decide +kernel
theorem dL_by_20 : decode cL_by 20 = .ok (.astore 4, 2) := by decide +kernel
theorem dL_by_22 : decode cL_by 22 = .ok (.iconst 1, 1) := by decide +kernel
theorem dL_by_23 : decode cL_by 23 = .ok (.ireturn, 1) := by decide +kernel
theorem dL_by_24 : decode cL_by 24 = .ok (.iconst 0, 1) := by decide +kernel
theorem dL_by_25 : decode cL_by 25 = .ok (.ireturn, 1) := by decide +kernel
theorem dL_share_0 : decode cL_share 0 = .ok (.aload 5, 2) := by decide +kernel
theorem dL_share_2 : decode cL_share 2 = .ok (.iconst 0, 1) := by decide +kernel
theorem dL_share_3 : decode cL_share 3 = .ok (.aload_n 0, 1) := by decide +kernel
theorem dL_share_4 : decode cL_share 4 = .ok (.iload_n 1, 1) := by decide +kernel
theorem dL_share_5 : decode cL_share 5 = .ok (.iload_n 2, 1) := by decide +kernel
theorem dL_share_6 : decode cL_share 6 = .ok (.iload_n 3, 1) := by decide +kernel
theorem dL_share_7 : decode cL_share 7 = .ok (.iload 4, 2) := by decide +kernel
theorem dL_share_9 : decode cL_share 9 = .ok (.invokevirtual 105, 3) := by decide +kernel
theorem dL_share_12 : decode cL_share 12 = .ok (.i2l, 1) := by decide +kernel
theorem dL_share_13 : decode cL_share 13 = .ok (.lastore, 1) := by decide +kernel
theorem dL_share_14 : decode cL_share 14 = .ok (.goto 15, 3) := by decide +kernel
theorem dL_share_17 : decode cL_share 17 = .ok (.astore 6, 2) := by decide +kernel
theorem dL_share_19 : decode cL_share 19 = .ok (.iconst 1, 1) := by decide +kernel
theorem dL_share_20 : decode cL_share 20 = .ok (.ireturn, 1) := by decide +kernel
theorem dL_share_21 : decode cL_share 21 = .ok (.astore 6, 2) := by decide +kernel
theorem dL_share_23 : decode cL_share 23 = .ok (.iconst 2, 1) := by decide +kernel
theorem dL_share_24 : decode cL_share 24 = .ok (.ireturn, 1) := by decide +kernel
theorem dL_share_25 : decode cL_share 25 = .ok (.astore 6, 2) := by decide +kernel
theorem dL_share_27 : decode cL_share 27 = .ok (.iconst 3, 1) := by decide +kernel
theorem dL_share_28 : decode cL_share 28 = .ok (.ireturn, 1) := by decide +kernel
theorem dL_share_29 : decode cL_share 29 = .ok (.iconst 0, 1) := by decide +kernel
theorem dL_share_30 : decode cL_share 30 = .ok (.ireturn, 1) := by decide +kernel
theorem dL_ahead_0 : decode cL_ahead 0 = .ok (.aload 4, 2) := by decide +kernel
theorem dL_ahead_2 : decode cL_ahead 2 = .ok (.iconst 0, 1) := by decide +kernel
theorem dL_ahead_3 : decode cL_ahead 3 = .ok (.aload_n 0, 1) := by decide +kernel
theorem dL_ahead_4 : decode cL_ahead 4 = .ok (.iload_n 1, 1) := by decide +kernel
theorem dL_ahead_5 : decode cL_ahead 5 = .ok (.iload_n 2, 1) := by decide +kernel
theorem dL_ahead_6 : decode cL_ahead 6 = .ok (.iload_n 3, 1) := by decide +kernel
theorem dL_ahead_7 : decode cL_ahead 7 = .ok (.invokevirtual 108, 3) := by decide +kernel
theorem dL_ahead_10 : decode cL_ahead 10 = .ok (.i2l, 1) := by decide +kernel
theorem dL_ahead_11 : decode cL_ahead 11 = .ok (.lastore, 1) := by decide +kernel
theorem dL_ahead_12 : decode cL_ahead 12 = .ok (.goto 11, 3) := by decide +kernel
theorem dL_ahead_15 : decode cL_ahead 15 = .ok (.astore 5, 2) := by decide +kernel
theorem dL_ahead_17 : decode cL_ahead 17 = .ok (.iconst 1, 1) := by decide +kernel
theorem dL_ahead_18 : decode cL_ahead 18 = .ok (.ireturn, 1) := by decide +kernel
theorem dL_ahead_19 : decode cL_ahead 19 = .ok (.astore 5, 2) := by decide +kernel
theorem dL_ahead_21 : decode cL_ahead 21 = .ok (.iconst 2, 1) := by decide +kernel
theorem dL_ahead_22 : decode cL_ahead 22 = .ok (.ireturn, 1) := by decide +kernel
theorem dL_ahead_23 : decode cL_ahead 23 = .ok (.iconst 0, 1) := by decide +kernel
theorem dL_ahead_24 : decode cL_ahead 24 = .ok (.ireturn, 1) := by decide +kernel
theorem dL_decade_0 : decode cL_decade 0 = .ok (.aload 5, 2) := by decide +kernel
theorem dL_decade_2 : decode cL_decade 2 = .ok (.iconst 0, 1) := by decide +kernel
theorem dL_decade_3 : decode cL_decade 3 = .ok (.aload_n 0, 1) := by decide +kernel
theorem dL_decade_4 : decode cL_decade 4 = .ok (.iload_n 1, 1) := by decide +kernel
theorem dL_decade_5 : decode cL_decade 5 = .ok (.iload_n 2, 1) := by decide +kernel
theorem dL_decade_6 : decode cL_decade 6 = .ok (.iload_n 3, 1) := by decide +kernel
theorem dL_decade_7 : decode cL_decade 7 = .ok (.iload 4, 2) := by decide +kernel
theorem dL_decade_9 : decode cL_decade 9 = .ok (.invokevirtual 111, 3) := by decide +kernel
theorem dL_decade_12 : decode cL_decade 12 = .ok (.i2l, 1) := by decide +kernel
theorem dL_decade_13 : decode cL_decade 13 = .ok (.lastore, 1) := by decide +kernel
theorem dL_decade_14 : decode cL_decade 14 = .ok (.goto 7, 3) := by decide +kernel
theorem dL_decade_17 : decode cL_decade 17 = .ok (.astore 6, 2) := by decide +kernel
theorem dL_decade_19 : decode cL_decade 19 = .ok (.iconst 1, 1) := by decide +kernel
theorem dL_decade_20 : decode cL_decade 20 = .ok (.ireturn, 1) := by decide +kernel
theorem dL_decade_21 : decode cL_decade 21 = .ok (.iconst 0, 1) := by decide +kernel
theorem dL_decade_22 : decode cL_decade 22 = .ok (.ireturn, 1) := by decide +kernel
theorem dL_span_0 : decode cL_span 0 = .ok (.aload 7, 2) := by decide +kernel
theorem dL_span_2 : decode cL_span 2 = .ok (.iconst 0, 1) := by decide +kernel
theorem dL_span_3 : decode cL_span 3 = .ok (.aload_n 0, 1) := by decide +kernel
theorem dL_span_4 : decode cL_span 4 = .ok (.iload_n 1, 1) := by decide +kernel
theorem dL_span_5 : decode cL_span 5 = .ok (.iload_n 2, 1) := by decide +kernel
theorem dL_span_6 : decode cL_span 6 = .ok (.iload_n 3, 1) := by decide +kernel
theorem dL_span_7 : decode cL_span 7 = .ok (.iload 4, 2) := by decide +kernel
theorem dL_span_9 : decode cL_span 9 = .ok (.iload 5, 2) := by decide +kernel
theorem dL_span_11 : decode cL_span 11 = .ok (.iload 6, 2) := by decide +kernel
theorem dL_span_13 : decode cL_span 13 = .ok (.invokevirtual 114, 3) := by decide +kernel
theorem dL_span_16 : decode cL_span 16 = .ok (.i2l, 1) := by decide +kernel
theorem dL_span_17 : decode cL_span 17 = .ok (.lastore, 1) := by decide +kernel
theorem dL_span_18 : decode cL_span 18 = .ok (.goto 7, 3) := by decide +kernel
theorem dL_span_21 : decode cL_span 21 = .ok (.astore 8, 2) := by decide +kernel
theorem dL_span_23 : decode cL_span 23 = .ok (.iconst 1, 1) := by decide +kernel
theorem dL_span_24 : decode cL_span 24 = .ok (.ireturn, 1) := by decide +kernel
theorem dL_span_25 : decode cL_span 25 = .ok (.iconst 0, 1) := by decide +kernel
theorem dL_span_26 : decode cL_span 26 = .ok (.ireturn, 1) := by decide +kernel
theorem dL_law__0 : decode cL_law_ 0 = .ok (.new 8, 3) := by decide +kernel
theorem dL_law__3 : decode cL_law_ 3 = .ok (.dup, 1) := by decide +kernel
theorem dL_law__4 : decode cL_law_ 4 = .ok (.invokespecial 118, 3) := by decide +kernel
theorem dL_law__7 : decode cL_law_ 7 = .ok (.astore_n 1, 1) := by decide +kernel
theorem dL_law__8 : decode cL_law_ 8 = .ok (.new 119, 3) := by decide +kernel
theorem dL_law__11 : decode cL_law_ 11 = .ok (.dup, 1) := by decide +kernel
theorem dL_law__12 : decode cL_law_ 12 = .ok (.invokespecial 121, 3) := by decide +kernel
theorem dL_law__15 : decode cL_law_ 15 = .ok (.astore_n 2, 1) := by decide +kernel
theorem dL_law__16 : decode cL_law_ 16 = .ok (.iconst 1, 1) := by decide +kernel
theorem dL_law__17 : decode cL_law_ 17 = .ok (.newarray .long, 2) := by decide +kernel
theorem dL_law__19 : decode cL_law_ 19 = .ok (.astore_n 3, 1) := by decide +kernel
theorem dL_law__20 : decode cL_law_ 20 = .ok (.iconst 0, 1) := by decide +kernel
theorem dL_law__21 : decode cL_law_ 21 = .ok (.istore 4, 2) := by decide +kernel
theorem dL_law__23 : decode cL_law_ 23 = .ok (.iload 4, 2) := by decide +kernel
theorem dL_law__25 : decode cL_law_ 25 = .ok (.aload_n 0, 1) := by decide +kernel
theorem dL_law__26 : decode cL_law_ 26 = .ok (.arraylength, 1) := by decide +kernel
theorem dL_law__27 : decode cL_law_ 27 = .ok (.bipush 7, 2) := by decide +kernel
theorem dL_law__29 : decode cL_law_ 29 = .ok (.isub, 1) := by decide +kernel
theorem dL_law__30 : decode cL_law_ 30 = .ok (.if_icmp .gt 2709, 3) := by decide +kernel
theorem dL_law__33 : decode cL_law_ 33 = .ok (.aload_n 0, 1) := by decide +kernel
theorem dL_law__34 : decode cL_law_ 34 = .ok (.iload 4, 2) := by decide +kernel
theorem dL_law__36 : decode cL_law_ 36 = .ok (.iaload, 1) := by decide +kernel
theorem dL_law__37 : decode cL_law_ 37 = .ok (.bipush 63, 2) := by decide +kernel
theorem dL_law__39 : decode cL_law_ 39 = .ok (.iand, 1) := by decide +kernel
theorem dL_law__40 : decode cL_law_ 40 = .ok (.tableswitch 2693 0 40 #[180, 253, 309, 365, 421, 477, 490, 503, 559, 627, 707, 787, 879, 947, 1015, 1083, 1170, 1238, 1294, 1307, 1387, 1467, 1523, 1579, 1647, 1715, 1728, 1796, 1852, 1920, 2012, 2092, 2160, 2235, 2327, 2407, 2499, 2617, 2630, 2643, 2668], 180) := by decide +kernel
theorem dL_law__220 : decode cL_law_ 220 = .ok (.aload_n 1, 1) := by decide +kernel
theorem dL_law__221 : decode cL_law_ 221 = .ok (.aload_n 0, 1) := by decide +kernel
theorem dL_law__222 : decode cL_law_ 222 = .ok (.iload 4, 2) := by decide +kernel
theorem dL_law__224 : decode cL_law_ 224 = .ok (.iconst 1, 1) := by decide +kernel
theorem dL_law__225 : decode cL_law_ 225 = .ok (.iadd, 1) := by decide +kernel
theorem dL_law__226 : decode cL_law_ 226 = .ok (.iaload, 1) := by decide +kernel
theorem dL_law__227 : decode cL_law_ 227 = .ok (.aload_n 0, 1) := by decide +kernel
theorem dL_law__228 : decode cL_law_ 228 = .ok (.iload 4, 2) := by decide +kernel
theorem dL_law__230 : decode cL_law_ 230 = .ok (.iconst 2, 1) := by decide +kernel
theorem dL_law__231 : decode cL_law_ 231 = .ok (.iadd, 1) := by decide +kernel
theorem dL_law__232 : decode cL_law_ 232 = .ok (.iaload, 1) := by decide +kernel
theorem dL_law__233 : decode cL_law_ 233 = .ok (.aload_n 0, 1) := by decide +kernel
theorem dL_law__234 : decode cL_law_ 234 = .ok (.iload 4, 2) := by decide +kernel
theorem dL_law__236 : decode cL_law_ 236 = .ok (.iconst 3, 1) := by decide +kernel
theorem dL_law__237 : decode cL_law_ 237 = .ok (.iadd, 1) := by decide +kernel
theorem dL_law__238 : decode cL_law_ 238 = .ok (.iaload, 1) := by decide +kernel
theorem dL_law__239 : decode cL_law_ 239 = .ok (.aload_n 0, 1) := by decide +kernel
theorem dL_law__240 : decode cL_law_ 240 = .ok (.iload 4, 2) := by decide +kernel
theorem dL_law__242 : decode cL_law_ 242 = .ok (.iconst 4, 1) := by decide +kernel
theorem dL_law__243 : decode cL_law_ 243 = .ok (.iadd, 1) := by decide +kernel
theorem dL_law__244 : decode cL_law_ 244 = .ok (.iaload, 1) := by decide +kernel
theorem dL_law__245 : decode cL_law_ 245 = .ok (.aload_n 0, 1) := by decide +kernel
theorem dL_law__246 : decode cL_law_ 246 = .ok (.iload 4, 2) := by decide +kernel
theorem dL_law__248 : decode cL_law_ 248 = .ok (.iconst 5, 1) := by decide +kernel
theorem dL_law__249 : decode cL_law_ 249 = .ok (.iadd, 1) := by decide +kernel
theorem dL_law__250 : decode cL_law_ 250 = .ok (.iaload, 1) := by decide +kernel
theorem dL_law__251 : decode cL_law_ 251 = .ok (.invokevirtual 122, 3) := by decide +kernel
theorem dL_law__254 : decode cL_law_ 254 = .ok (.aload_n 2, 1) := by decide +kernel
theorem dL_law__255 : decode cL_law_ 255 = .ok (.aload_n 0, 1) := by decide +kernel
theorem dL_law__256 : decode cL_law_ 256 = .ok (.iload 4, 2) := by decide +kernel
theorem dL_law__258 : decode cL_law_ 258 = .ok (.iconst 1, 1) := by decide +kernel
theorem dL_law__259 : decode cL_law_ 259 = .ok (.iadd, 1) := by decide +kernel
theorem dL_law__260 : decode cL_law_ 260 = .ok (.iaload, 1) := by decide +kernel
theorem dL_law__261 : decode cL_law_ 261 = .ok (.aload_n 0, 1) := by decide +kernel
theorem dL_law__262 : decode cL_law_ 262 = .ok (.iload 4, 2) := by decide +kernel
theorem dL_law__264 : decode cL_law_ 264 = .ok (.iconst 2, 1) := by decide +kernel
theorem dL_law__265 : decode cL_law_ 265 = .ok (.iadd, 1) := by decide +kernel
theorem dL_law__266 : decode cL_law_ 266 = .ok (.iaload, 1) := by decide +kernel
theorem dL_law__267 : decode cL_law_ 267 = .ok (.aload_n 0, 1) := by decide +kernel
theorem dL_law__268 : decode cL_law_ 268 = .ok (.iload 4, 2) := by decide +kernel
theorem dL_law__270 : decode cL_law_ 270 = .ok (.iconst 3, 1) := by decide +kernel
theorem dL_law__271 : decode cL_law_ 271 = .ok (.iadd, 1) := by decide +kernel
theorem dL_law__272 : decode cL_law_ 272 = .ok (.iaload, 1) := by decide +kernel
theorem dL_law__273 : decode cL_law_ 273 = .ok (.aload_n 0, 1) := by decide +kernel
theorem dL_law__274 : decode cL_law_ 274 = .ok (.iload 4, 2) := by decide +kernel
theorem dL_law__276 : decode cL_law_ 276 = .ok (.iconst 4, 1) := by decide +kernel
theorem dL_law__277 : decode cL_law_ 277 = .ok (.iadd, 1) := by decide +kernel
theorem dL_law__278 : decode cL_law_ 278 = .ok (.iaload, 1) := by decide +kernel
theorem dL_law__279 : decode cL_law_ 279 = .ok (.aload_n 0, 1) := by decide +kernel
theorem dL_law__280 : decode cL_law_ 280 = .ok (.iload 4, 2) := by decide +kernel
theorem dL_law__282 : decode cL_law_ 282 = .ok (.iconst 5, 1) := by decide +kernel
theorem dL_law__283 : decode cL_law_ 283 = .ok (.iadd, 1) := by decide +kernel
theorem dL_law__284 : decode cL_law_ 284 = .ok (.iaload, 1) := by decide +kernel
theorem dL_law__285 : decode cL_law_ 285 = .ok (.invokevirtual 126, 3) := by decide +kernel
theorem dL_law__288 : decode cL_law_ 288 = .ok (.if_icmp .eq 2445, 3) := by decide +kernel
theorem dL_law__291 : decode cL_law_ 291 = .ok (.iconst 0, 1) := by decide +kernel
theorem dL_law__292 : decode cL_law_ 292 = .ok (.ireturn, 1) := by decide +kernel
theorem dL_law__293 : decode cL_law_ 293 = .ok (.aload_n 1, 1) := by decide +kernel
theorem dL_law__294 : decode cL_law_ 294 = .ok (.aload_n 0, 1) := by decide +kernel
theorem dL_law__295 : decode cL_law_ 295 = .ok (.iload 4, 2) := by decide +kernel
theorem dL_law__297 : decode cL_law_ 297 = .ok (.iconst 1, 1) := by decide +kernel
theorem dL_law__298 : decode cL_law_ 298 = .ok (.iadd, 1) := by decide +kernel
theorem dL_law__299 : decode cL_law_ 299 = .ok (.iaload, 1) := by decide +kernel
theorem dL_law__300 : decode cL_law_ 300 = .ok (.aload_n 3, 1) := by decide +kernel
theorem dL_law__301 : decode cL_law_ 301 = .ok (.invokestatic 127, 3) := by decide +kernel
theorem dL_law__304 : decode cL_law_ 304 = .ok (.istore 5, 2) := by decide +kernel
theorem dL_law__306 : decode cL_law_ 306 = .ok (.aload_n 2, 1) := by decide +kernel
theorem dL_law__307 : decode cL_law_ 307 = .ok (.aload_n 0, 1) := by decide +kernel
theorem dL_law__308 : decode cL_law_ 308 = .ok (.iload 4, 2) := by decide +kernel
theorem dL_law__310 : decode cL_law_ 310 = .ok (.iconst 1, 1) := by decide +kernel
theorem dL_law__311 : decode cL_law_ 311 = .ok (.iadd, 1) := by decide +kernel
theorem dL_law__312 : decode cL_law_ 312 = .ok (.iaload, 1) := by decide +kernel
theorem dL_law__313 : decode cL_law_ 313 = .ok (.invokevirtual 132, 3) := by decide +kernel
theorem dL_law__316 : decode cL_law_ 316 = .ok (.istore 6, 2) := by decide +kernel
theorem dL_law__318 : decode cL_law_ 318 = .ok (.aload_n 2, 1) := by decide +kernel
theorem dL_law__319 : decode cL_law_ 319 = .ok (.invokevirtual 133, 3) := by decide +kernel
theorem dL_law__322 : decode cL_law_ 322 = .ok (.iload 5, 2) := by decide +kernel
theorem dL_law__324 : decode cL_law_ 324 = .ok (.if_icmp .eq 5, 3) := by decide +kernel
theorem dL_law__327 : decode cL_law_ 327 = .ok (.iconst 0, 1) := by decide +kernel
theorem dL_law__328 : decode cL_law_ 328 = .ok (.ireturn, 1) := by decide +kernel
theorem dL_law__329 : decode cL_law_ 329 = .ok (.iload 5, 2) := by decide +kernel
theorem dL_law__331 : decode cL_law_ 331 = .ok (.ifCond .ne 15, 3) := by decide +kernel
theorem dL_law__334 : decode cL_law_ 334 = .ok (.aload_n 3, 1) := by decide +kernel
theorem dL_law__335 : decode cL_law_ 335 = .ok (.iconst 0, 1) := by decide +kernel
theorem dL_law__336 : decode cL_law_ 336 = .ok (.laload, 1) := by decide +kernel
theorem dL_law__337 : decode cL_law_ 337 = .ok (.iload 6, 2) := by decide +kernel
theorem dL_law__339 : decode cL_law_ 339 = .ok (.i2l, 1) := by decide +kernel
theorem dL_law__340 : decode cL_law_ 340 = .ok (.lcmp, 1) := by decide +kernel
theorem dL_law__341 : decode cL_law_ 341 = .ok (.ifCond .eq 5, 3) := by decide +kernel
theorem dL_law__344 : decode cL_law_ 344 = .ok (.iconst 0, 1) := by decide +kernel
theorem dL_law__345 : decode cL_law_ 345 = .ok (.ireturn, 1) := by decide +kernel
theorem dL_law__346 : decode cL_law_ 346 = .ok (.goto 2387, 3) := by decide +kernel
theorem dL_law__349 : decode cL_law_ 349 = .ok (.aload_n 1, 1) := by decide +kernel
theorem dL_law__350 : decode cL_law_ 350 = .ok (.aload_n 0, 1) := by decide +kernel
theorem dL_law__351 : decode cL_law_ 351 = .ok (.iload 4, 2) := by decide +kernel
theorem dL_law__353 : decode cL_law_ 353 = .ok (.iconst 1, 1) := by decide +kernel
theorem dL_law__354 : decode cL_law_ 354 = .ok (.iadd, 1) := by decide +kernel
theorem dL_law__355 : decode cL_law_ 355 = .ok (.iaload, 1) := by decide +kernel
theorem dL_law__356 : decode cL_law_ 356 = .ok (.aload_n 3, 1) := by decide +kernel
theorem dL_law__357 : decode cL_law_ 357 = .ok (.invokestatic 137, 3) := by decide +kernel
theorem dL_law__360 : decode cL_law_ 360 = .ok (.istore 5, 2) := by decide +kernel
theorem dL_law__362 : decode cL_law_ 362 = .ok (.aload_n 2, 1) := by decide +kernel
theorem dL_law__363 : decode cL_law_ 363 = .ok (.aload_n 0, 1) := by decide +kernel
theorem dL_law__364 : decode cL_law_ 364 = .ok (.iload 4, 2) := by decide +kernel
theorem dL_law__366 : decode cL_law_ 366 = .ok (.iconst 1, 1) := by decide +kernel
theorem dL_law__367 : decode cL_law_ 367 = .ok (.iadd, 1) := by decide +kernel
theorem dL_law__368 : decode cL_law_ 368 = .ok (.iaload, 1) := by decide +kernel
theorem dL_law__369 : decode cL_law_ 369 = .ok (.invokevirtual 139, 3) := by decide +kernel
theorem dL_law__372 : decode cL_law_ 372 = .ok (.istore 6, 2) := by decide +kernel
theorem dL_law__374 : decode cL_law_ 374 = .ok (.aload_n 2, 1) := by decide +kernel
theorem dL_law__375 : decode cL_law_ 375 = .ok (.invokevirtual 133, 3) := by decide +kernel
theorem dL_law__378 : decode cL_law_ 378 = .ok (.iload 5, 2) := by decide +kernel
theorem dL_law__380 : decode cL_law_ 380 = .ok (.if_icmp .eq 5, 3) := by decide +kernel
theorem dL_law__383 : decode cL_law_ 383 = .ok (.iconst 0, 1) := by decide +kernel
theorem dL_law__384 : decode cL_law_ 384 = .ok (.ireturn, 1) := by decide +kernel
theorem dL_law__385 : decode cL_law_ 385 = .ok (.iload 5, 2) := by decide +kernel
theorem dL_law__387 : decode cL_law_ 387 = .ok (.ifCond .ne 15, 3) := by decide +kernel
theorem dL_law__390 : decode cL_law_ 390 = .ok (.aload_n 3, 1) := by decide +kernel
theorem dL_law__391 : decode cL_law_ 391 = .ok (.iconst 0, 1) := by decide +kernel
theorem dL_law__392 : decode cL_law_ 392 = .ok (.laload, 1) := by decide +kernel
theorem dL_law__393 : decode cL_law_ 393 = .ok (.iload 6, 2) := by decide +kernel
theorem dL_law__395 : decode cL_law_ 395 = .ok (.i2l, 1) := by decide +kernel
theorem dL_law__396 : decode cL_law_ 396 = .ok (.lcmp, 1) := by decide +kernel
theorem dL_law__397 : decode cL_law_ 397 = .ok (.ifCond .eq 5, 3) := by decide +kernel
theorem dL_law__400 : decode cL_law_ 400 = .ok (.iconst 0, 1) := by decide +kernel
theorem dL_law__401 : decode cL_law_ 401 = .ok (.ireturn, 1) := by decide +kernel
theorem dL_law__402 : decode cL_law_ 402 = .ok (.goto 2331, 3) := by decide +kernel
theorem dL_law__405 : decode cL_law_ 405 = .ok (.aload_n 1, 1) := by decide +kernel
theorem dL_law__406 : decode cL_law_ 406 = .ok (.aload_n 0, 1) := by decide +kernel
theorem dL_law__407 : decode cL_law_ 407 = .ok (.iload 4, 2) := by decide +kernel
theorem dL_law__409 : decode cL_law_ 409 = .ok (.iconst 1, 1) := by decide +kernel
theorem dL_law__410 : decode cL_law_ 410 = .ok (.iadd, 1) := by decide +kernel
theorem dL_law__411 : decode cL_law_ 411 = .ok (.iaload, 1) := by decide +kernel
theorem dL_law__412 : decode cL_law_ 412 = .ok (.aload_n 3, 1) := by decide +kernel
theorem dL_law__413 : decode cL_law_ 413 = .ok (.invokestatic 140, 3) := by decide +kernel
theorem dL_law__416 : decode cL_law_ 416 = .ok (.istore 5, 2) := by decide +kernel
theorem dL_law__418 : decode cL_law_ 418 = .ok (.aload_n 2, 1) := by decide +kernel
theorem dL_law__419 : decode cL_law_ 419 = .ok (.aload_n 0, 1) := by decide +kernel
theorem dL_law__420 : decode cL_law_ 420 = .ok (.iload 4, 2) := by decide +kernel
theorem dL_law__422 : decode cL_law_ 422 = .ok (.iconst 1, 1) := by decide +kernel
theorem dL_law__423 : decode cL_law_ 423 = .ok (.iadd, 1) := by decide +kernel
theorem dL_law__424 : decode cL_law_ 424 = .ok (.iaload, 1) := by decide +kernel
theorem dL_law__425 : decode cL_law_ 425 = .ok (.invokevirtual 142, 3) := by decide +kernel
theorem dL_law__428 : decode cL_law_ 428 = .ok (.istore 6, 2) := by decide +kernel
theorem dL_law__430 : decode cL_law_ 430 = .ok (.aload_n 2, 1) := by decide +kernel
theorem dL_law__431 : decode cL_law_ 431 = .ok (.invokevirtual 133, 3) := by decide +kernel
theorem dL_law__434 : decode cL_law_ 434 = .ok (.iload 5, 2) := by decide +kernel
theorem dL_law__436 : decode cL_law_ 436 = .ok (.if_icmp .eq 5, 3) := by decide +kernel
theorem dL_law__439 : decode cL_law_ 439 = .ok (.iconst 0, 1) := by decide +kernel
theorem dL_law__440 : decode cL_law_ 440 = .ok (.ireturn, 1) := by decide +kernel
theorem dL_law__441 : decode cL_law_ 441 = .ok (.iload 5, 2) := by decide +kernel
theorem dL_law__443 : decode cL_law_ 443 = .ok (.ifCond .ne 15, 3) := by decide +kernel
theorem dL_law__446 : decode cL_law_ 446 = .ok (.aload_n 3, 1) := by decide +kernel
theorem dL_law__447 : decode cL_law_ 447 = .ok (.iconst 0, 1) := by decide +kernel
theorem dL_law__448 : decode cL_law_ 448 = .ok (.laload, 1) := by decide +kernel
theorem dL_law__449 : decode cL_law_ 449 = .ok (.iload 6, 2) := by decide +kernel
theorem dL_law__451 : decode cL_law_ 451 = .ok (.i2l, 1) := by decide +kernel
theorem dL_law__452 : decode cL_law_ 452 = .ok (.lcmp, 1) := by decide +kernel
theorem dL_law__453 : decode cL_law_ 453 = .ok (.ifCond .eq 5, 3) := by decide +kernel
theorem dL_law__456 : decode cL_law_ 456 = .ok (.iconst 0, 1) := by decide +kernel
theorem dL_law__457 : decode cL_law_ 457 = .ok (.ireturn, 1) := by decide +kernel
theorem dL_law__458 : decode cL_law_ 458 = .ok (.goto 2275, 3) := by decide +kernel
theorem dL_law__461 : decode cL_law_ 461 = .ok (.aload_n 1, 1) := by decide +kernel
theorem dL_law__462 : decode cL_law_ 462 = .ok (.aload_n 0, 1) := by decide +kernel
theorem dL_law__463 : decode cL_law_ 463 = .ok (.iload 4, 2) := by decide +kernel
theorem dL_law__465 : decode cL_law_ 465 = .ok (.iconst 1, 1) := by decide +kernel
theorem dL_law__466 : decode cL_law_ 466 = .ok (.iadd, 1) := by decide +kernel
theorem dL_law__467 : decode cL_law_ 467 = .ok (.iaload, 1) := by decide +kernel
theorem dL_law__468 : decode cL_law_ 468 = .ok (.aload_n 3, 1) := by decide +kernel
theorem dL_law__469 : decode cL_law_ 469 = .ok (.invokestatic 143, 3) := by decide +kernel
theorem dL_law__472 : decode cL_law_ 472 = .ok (.istore 5, 2) := by decide +kernel
theorem dL_law__474 : decode cL_law_ 474 = .ok (.aload_n 2, 1) := by decide +kernel
theorem dL_law__475 : decode cL_law_ 475 = .ok (.aload_n 0, 1) := by decide +kernel
theorem dL_law__476 : decode cL_law_ 476 = .ok (.iload 4, 2) := by decide +kernel
theorem dL_law__478 : decode cL_law_ 478 = .ok (.iconst 1, 1) := by decide +kernel
theorem dL_law__479 : decode cL_law_ 479 = .ok (.iadd, 1) := by decide +kernel
theorem dL_law__480 : decode cL_law_ 480 = .ok (.iaload, 1) := by decide +kernel
theorem dL_law__481 : decode cL_law_ 481 = .ok (.invokevirtual 145, 3) := by decide +kernel
theorem dL_law__484 : decode cL_law_ 484 = .ok (.istore 6, 2) := by decide +kernel
theorem dL_law__486 : decode cL_law_ 486 = .ok (.aload_n 2, 1) := by decide +kernel
theorem dL_law__487 : decode cL_law_ 487 = .ok (.invokevirtual 133, 3) := by decide +kernel
theorem dL_law__490 : decode cL_law_ 490 = .ok (.iload 5, 2) := by decide +kernel
theorem dL_law__492 : decode cL_law_ 492 = .ok (.if_icmp .eq 5, 3) := by decide +kernel
theorem dL_law__495 : decode cL_law_ 495 = .ok (.iconst 0, 1) := by decide +kernel
theorem dL_law__496 : decode cL_law_ 496 = .ok (.ireturn, 1) := by decide +kernel
theorem dL_law__497 : decode cL_law_ 497 = .ok (.iload 5, 2) := by decide +kernel
theorem dL_law__499 : decode cL_law_ 499 = .ok (.ifCond .ne 15, 3) := by decide +kernel
theorem dL_law__502 : decode cL_law_ 502 = .ok (.aload_n 3, 1) := by decide +kernel
theorem dL_law__503 : decode cL_law_ 503 = .ok (.iconst 0, 1) := by decide +kernel
theorem dL_law__504 : decode cL_law_ 504 = .ok (.laload, 1) := by decide +kernel
theorem dL_law__505 : decode cL_law_ 505 = .ok (.iload 6, 2) := by decide +kernel
theorem dL_law__507 : decode cL_law_ 507 = .ok (.i2l, 1) := by decide +kernel
theorem dL_law__508 : decode cL_law_ 508 = .ok (.lcmp, 1) := by decide +kernel
theorem dL_law__509 : decode cL_law_ 509 = .ok (.ifCond .eq 5, 3) := by decide +kernel
theorem dL_law__512 : decode cL_law_ 512 = .ok (.iconst 0, 1) := by decide +kernel
theorem dL_law__513 : decode cL_law_ 513 = .ok (.ireturn, 1) := by decide +kernel
theorem dL_law__514 : decode cL_law_ 514 = .ok (.goto 2219, 3) := by decide +kernel
theorem dL_law__517 : decode cL_law_ 517 = .ok (.aload_n 1, 1) := by decide +kernel
theorem dL_law__518 : decode cL_law_ 518 = .ok (.invokevirtual 146, 3) := by decide +kernel
theorem dL_law__521 : decode cL_law_ 521 = .ok (.aload_n 2, 1) := by decide +kernel
theorem dL_law__522 : decode cL_law_ 522 = .ok (.invokevirtual 149, 3) := by decide +kernel
theorem dL_law__525 : decode cL_law_ 525 = .ok (.if_icmp .eq 2208, 3) := by decide +kernel
theorem dL_law__528 : decode cL_law_ 528 = .ok (.iconst 0, 1) := by decide +kernel
theorem dL_law__529 : decode cL_law_ 529 = .ok (.ireturn, 1) := by decide +kernel
theorem dL_law__530 : decode cL_law_ 530 = .ok (.aload_n 1, 1) := by decide +kernel
theorem dL_law__531 : decode cL_law_ 531 = .ok (.invokevirtual 150, 3) := by decide +kernel
theorem dL_law__534 : decode cL_law_ 534 = .ok (.aload_n 2, 1) := by decide +kernel
theorem dL_law__535 : decode cL_law_ 535 = .ok (.invokevirtual 153, 3) := by decide +kernel
theorem dL_law__538 : decode cL_law_ 538 = .ok (.if_icmp .eq 2195, 3) := by decide +kernel
theorem dL_law__541 : decode cL_law_ 541 = .ok (.iconst 0, 1) := by decide +kernel
theorem dL_law__542 : decode cL_law_ 542 = .ok (.ireturn, 1) := by decide +kernel
theorem dL_law__543 : decode cL_law_ 543 = .ok (.aload_n 1, 1) := by decide +kernel
theorem dL_law__544 : decode cL_law_ 544 = .ok (.aload_n 0, 1) := by decide +kernel
theorem dL_law__545 : decode cL_law_ 545 = .ok (.iload 4, 2) := by decide +kernel
theorem dL_law__547 : decode cL_law_ 547 = .ok (.iconst 1, 1) := by decide +kernel
theorem dL_law__548 : decode cL_law_ 548 = .ok (.iadd, 1) := by decide +kernel
theorem dL_law__549 : decode cL_law_ 549 = .ok (.iaload, 1) := by decide +kernel
theorem dL_law__550 : decode cL_law_ 550 = .ok (.aload_n 3, 1) := by decide +kernel
theorem dL_law__551 : decode cL_law_ 551 = .ok (.invokestatic 154, 3) := by decide +kernel
theorem dL_law__554 : decode cL_law_ 554 = .ok (.istore 5, 2) := by decide +kernel
theorem dL_law__556 : decode cL_law_ 556 = .ok (.aload_n 2, 1) := by decide +kernel
theorem dL_law__557 : decode cL_law_ 557 = .ok (.aload_n 0, 1) := by decide +kernel
theorem dL_law__558 : decode cL_law_ 558 = .ok (.iload 4, 2) := by decide +kernel
theorem dL_law__560 : decode cL_law_ 560 = .ok (.iconst 1, 1) := by decide +kernel
theorem dL_law__561 : decode cL_law_ 561 = .ok (.iadd, 1) := by decide +kernel
theorem dL_law__562 : decode cL_law_ 562 = .ok (.iaload, 1) := by decide +kernel
theorem dL_law__563 : decode cL_law_ 563 = .ok (.invokevirtual 156, 3) := by decide +kernel
theorem dL_law__566 : decode cL_law_ 566 = .ok (.istore 6, 2) := by decide +kernel
theorem dL_law__568 : decode cL_law_ 568 = .ok (.aload_n 2, 1) := by decide +kernel
theorem dL_law__569 : decode cL_law_ 569 = .ok (.invokevirtual 133, 3) := by decide +kernel
theorem dL_law__572 : decode cL_law_ 572 = .ok (.iload 5, 2) := by decide +kernel
theorem dL_law__574 : decode cL_law_ 574 = .ok (.if_icmp .eq 5, 3) := by decide +kernel
theorem dL_law__577 : decode cL_law_ 577 = .ok (.iconst 0, 1) := by decide +kernel
theorem dL_law__578 : decode cL_law_ 578 = .ok (.ireturn, 1) := by decide +kernel
theorem dL_law__579 : decode cL_law_ 579 = .ok (.iload 5, 2) := by decide +kernel
theorem dL_law__581 : decode cL_law_ 581 = .ok (.ifCond .ne 15, 3) := by decide +kernel
theorem dL_law__584 : decode cL_law_ 584 = .ok (.aload_n 3, 1) := by decide +kernel
theorem dL_law__585 : decode cL_law_ 585 = .ok (.iconst 0, 1) := by decide +kernel
theorem dL_law__586 : decode cL_law_ 586 = .ok (.laload, 1) := by decide +kernel
theorem dL_law__587 : decode cL_law_ 587 = .ok (.iload 6, 2) := by decide +kernel
theorem dL_law__589 : decode cL_law_ 589 = .ok (.i2l, 1) := by decide +kernel
theorem dL_law__590 : decode cL_law_ 590 = .ok (.lcmp, 1) := by decide +kernel
theorem dL_law__591 : decode cL_law_ 591 = .ok (.ifCond .eq 5, 3) := by decide +kernel
theorem dL_law__594 : decode cL_law_ 594 = .ok (.iconst 0, 1) := by decide +kernel
theorem dL_law__595 : decode cL_law_ 595 = .ok (.ireturn, 1) := by decide +kernel
theorem dL_law__596 : decode cL_law_ 596 = .ok (.goto 2137, 3) := by decide +kernel
theorem dL_law__599 : decode cL_law_ 599 = .ok (.aload_n 1, 1) := by decide +kernel
theorem dL_law__600 : decode cL_law_ 600 = .ok (.aload_n 0, 1) := by decide +kernel
theorem dL_law__601 : decode cL_law_ 601 = .ok (.iload 4, 2) := by decide +kernel
theorem dL_law__603 : decode cL_law_ 603 = .ok (.iconst 1, 1) := by decide +kernel
theorem dL_law__604 : decode cL_law_ 604 = .ok (.iadd, 1) := by decide +kernel
theorem dL_law__605 : decode cL_law_ 605 = .ok (.iaload, 1) := by decide +kernel
theorem dL_law__606 : decode cL_law_ 606 = .ok (.aload_n 0, 1) := by decide +kernel
theorem dL_law__607 : decode cL_law_ 607 = .ok (.iload 4, 2) := by decide +kernel
theorem dL_law__609 : decode cL_law_ 609 = .ok (.iconst 2, 1) := by decide +kernel
theorem dL_law__610 : decode cL_law_ 610 = .ok (.iadd, 1) := by decide +kernel
theorem dL_law__611 : decode cL_law_ 611 = .ok (.iaload, 1) := by decide +kernel
theorem dL_law__612 : decode cL_law_ 612 = .ok (.aload_n 3, 1) := by decide +kernel
theorem dL_law__613 : decode cL_law_ 613 = .ok (.invokestatic 157, 3) := by decide +kernel
theorem dL_law__616 : decode cL_law_ 616 = .ok (.istore 5, 2) := by decide +kernel
theorem dL_law__618 : decode cL_law_ 618 = .ok (.aload_n 2, 1) := by decide +kernel
theorem dL_law__619 : decode cL_law_ 619 = .ok (.aload_n 0, 1) := by decide +kernel
theorem dL_law__620 : decode cL_law_ 620 = .ok (.iload 4, 2) := by decide +kernel
theorem dL_law__622 : decode cL_law_ 622 = .ok (.iconst 1, 1) := by decide +kernel
theorem dL_law__623 : decode cL_law_ 623 = .ok (.iadd, 1) := by decide +kernel
theorem dL_law__624 : decode cL_law_ 624 = .ok (.iaload, 1) := by decide +kernel
theorem dL_law__625 : decode cL_law_ 625 = .ok (.aload_n 0, 1) := by decide +kernel
theorem dL_law__626 : decode cL_law_ 626 = .ok (.iload 4, 2) := by decide +kernel
theorem dL_law__628 : decode cL_law_ 628 = .ok (.iconst 2, 1) := by decide +kernel
theorem dL_law__629 : decode cL_law_ 629 = .ok (.iadd, 1) := by decide +kernel
theorem dL_law__630 : decode cL_law_ 630 = .ok (.iaload, 1) := by decide +kernel
theorem dL_law__631 : decode cL_law_ 631 = .ok (.invokevirtual 160, 3) := by decide +kernel
theorem dL_law__634 : decode cL_law_ 634 = .ok (.istore 6, 2) := by decide +kernel
theorem dL_law__636 : decode cL_law_ 636 = .ok (.aload_n 2, 1) := by decide +kernel
theorem dL_law__637 : decode cL_law_ 637 = .ok (.invokevirtual 133, 3) := by decide +kernel
theorem dL_law__640 : decode cL_law_ 640 = .ok (.iload 5, 2) := by decide +kernel
theorem dL_law__642 : decode cL_law_ 642 = .ok (.if_icmp .eq 5, 3) := by decide +kernel
theorem dL_law__645 : decode cL_law_ 645 = .ok (.iconst 0, 1) := by decide +kernel
theorem dL_law__646 : decode cL_law_ 646 = .ok (.ireturn, 1) := by decide +kernel
theorem dL_law__647 : decode cL_law_ 647 = .ok (.iload 5, 2) := by decide +kernel
theorem dL_law__649 : decode cL_law_ 649 = .ok (.ifCond .ne 15, 3) := by decide +kernel
theorem dL_law__652 : decode cL_law_ 652 = .ok (.aload_n 3, 1) := by decide +kernel
theorem dL_law__653 : decode cL_law_ 653 = .ok (.iconst 0, 1) := by decide +kernel
theorem dL_law__654 : decode cL_law_ 654 = .ok (.laload, 1) := by decide +kernel
theorem dL_law__655 : decode cL_law_ 655 = .ok (.iload 6, 2) := by decide +kernel
theorem dL_law__657 : decode cL_law_ 657 = .ok (.i2l, 1) := by decide +kernel
theorem dL_law__658 : decode cL_law_ 658 = .ok (.lcmp, 1) := by decide +kernel
theorem dL_law__659 : decode cL_law_ 659 = .ok (.ifCond .eq 5, 3) := by decide +kernel
theorem dL_law__662 : decode cL_law_ 662 = .ok (.iconst 0, 1) := by decide +kernel
theorem dL_law__663 : decode cL_law_ 663 = .ok (.ireturn, 1) := by decide +kernel
theorem dL_law__664 : decode cL_law_ 664 = .ok (.goto 2069, 3) := by decide +kernel
theorem dL_law__667 : decode cL_law_ 667 = .ok (.aload_n 1, 1) := by decide +kernel
theorem dL_law__668 : decode cL_law_ 668 = .ok (.aload_n 0, 1) := by decide +kernel
theorem dL_law__669 : decode cL_law_ 669 = .ok (.iload 4, 2) := by decide +kernel
theorem dL_law__671 : decode cL_law_ 671 = .ok (.iconst 1, 1) := by decide +kernel
theorem dL_law__672 : decode cL_law_ 672 = .ok (.iadd, 1) := by decide +kernel
theorem dL_law__673 : decode cL_law_ 673 = .ok (.iaload, 1) := by decide +kernel
theorem dL_law__674 : decode cL_law_ 674 = .ok (.aload_n 0, 1) := by decide +kernel
theorem dL_law__675 : decode cL_law_ 675 = .ok (.iload 4, 2) := by decide +kernel
theorem dL_law__677 : decode cL_law_ 677 = .ok (.iconst 2, 1) := by decide +kernel
theorem dL_law__678 : decode cL_law_ 678 = .ok (.iadd, 1) := by decide +kernel
theorem dL_law__679 : decode cL_law_ 679 = .ok (.iaload, 1) := by decide +kernel
theorem dL_law__680 : decode cL_law_ 680 = .ok (.aload_n 0, 1) := by decide +kernel
theorem dL_law__681 : decode cL_law_ 681 = .ok (.iload 4, 2) := by decide +kernel
theorem dL_law__683 : decode cL_law_ 683 = .ok (.iconst 3, 1) := by decide +kernel
theorem dL_law__684 : decode cL_law_ 684 = .ok (.iadd, 1) := by decide +kernel
theorem dL_law__685 : decode cL_law_ 685 = .ok (.iaload, 1) := by decide +kernel
theorem dL_law__686 : decode cL_law_ 686 = .ok (.aload_n 3, 1) := by decide +kernel
theorem dL_law__687 : decode cL_law_ 687 = .ok (.invokestatic 161, 3) := by decide +kernel
theorem dL_law__690 : decode cL_law_ 690 = .ok (.istore 5, 2) := by decide +kernel
theorem dL_law__692 : decode cL_law_ 692 = .ok (.aload_n 2, 1) := by decide +kernel
theorem dL_law__693 : decode cL_law_ 693 = .ok (.aload_n 0, 1) := by decide +kernel
theorem dL_law__694 : decode cL_law_ 694 = .ok (.iload 4, 2) := by decide +kernel
theorem dL_law__696 : decode cL_law_ 696 = .ok (.iconst 1, 1) := by decide +kernel
theorem dL_law__697 : decode cL_law_ 697 = .ok (.iadd, 1) := by decide +kernel
theorem dL_law__698 : decode cL_law_ 698 = .ok (.iaload, 1) := by decide +kernel
theorem dL_law__699 : decode cL_law_ 699 = .ok (.aload_n 0, 1) := by decide +kernel
theorem dL_law__700 : decode cL_law_ 700 = .ok (.iload 4, 2) := by decide +kernel
theorem dL_law__702 : decode cL_law_ 702 = .ok (.iconst 2, 1) := by decide +kernel
theorem dL_law__703 : decode cL_law_ 703 = .ok (.iadd, 1) := by decide +kernel
theorem dL_law__704 : decode cL_law_ 704 = .ok (.iaload, 1) := by decide +kernel
theorem dL_law__705 : decode cL_law_ 705 = .ok (.aload_n 0, 1) := by decide +kernel
theorem dL_law__706 : decode cL_law_ 706 = .ok (.iload 4, 2) := by decide +kernel
theorem dL_law__708 : decode cL_law_ 708 = .ok (.iconst 3, 1) := by decide +kernel
theorem dL_law__709 : decode cL_law_ 709 = .ok (.iadd, 1) := by decide +kernel
theorem dL_law__710 : decode cL_law_ 710 = .ok (.iaload, 1) := by decide +kernel
theorem dL_law__711 : decode cL_law_ 711 = .ok (.invokevirtual 164, 3) := by decide +kernel
theorem dL_law__714 : decode cL_law_ 714 = .ok (.istore 6, 2) := by decide +kernel
theorem dL_law__716 : decode cL_law_ 716 = .ok (.aload_n 2, 1) := by decide +kernel
theorem dL_law__717 : decode cL_law_ 717 = .ok (.invokevirtual 133, 3) := by decide +kernel
theorem dL_law__720 : decode cL_law_ 720 = .ok (.iload 5, 2) := by decide +kernel
theorem dL_law__722 : decode cL_law_ 722 = .ok (.if_icmp .eq 5, 3) := by decide +kernel
theorem dL_law__725 : decode cL_law_ 725 = .ok (.iconst 0, 1) := by decide +kernel
theorem dL_law__726 : decode cL_law_ 726 = .ok (.ireturn, 1) := by decide +kernel
theorem dL_law__727 : decode cL_law_ 727 = .ok (.iload 5, 2) := by decide +kernel
theorem dL_law__729 : decode cL_law_ 729 = .ok (.ifCond .ne 15, 3) := by decide +kernel
theorem dL_law__732 : decode cL_law_ 732 = .ok (.aload_n 3, 1) := by decide +kernel
theorem dL_law__733 : decode cL_law_ 733 = .ok (.iconst 0, 1) := by decide +kernel
theorem dL_law__734 : decode cL_law_ 734 = .ok (.laload, 1) := by decide +kernel
theorem dL_law__735 : decode cL_law_ 735 = .ok (.iload 6, 2) := by decide +kernel
theorem dL_law__737 : decode cL_law_ 737 = .ok (.i2l, 1) := by decide +kernel
theorem dL_law__738 : decode cL_law_ 738 = .ok (.lcmp, 1) := by decide +kernel
theorem dL_law__739 : decode cL_law_ 739 = .ok (.ifCond .eq 5, 3) := by decide +kernel
theorem dL_law__742 : decode cL_law_ 742 = .ok (.iconst 0, 1) := by decide +kernel
theorem dL_law__743 : decode cL_law_ 743 = .ok (.ireturn, 1) := by decide +kernel
theorem dL_law__744 : decode cL_law_ 744 = .ok (.goto 1989, 3) := by decide +kernel
theorem dL_law__747 : decode cL_law_ 747 = .ok (.aload_n 1, 1) := by decide +kernel
theorem dL_law__748 : decode cL_law_ 748 = .ok (.aload_n 0, 1) := by decide +kernel
theorem dL_law__749 : decode cL_law_ 749 = .ok (.iload 4, 2) := by decide +kernel
theorem dL_law__751 : decode cL_law_ 751 = .ok (.iconst 1, 1) := by decide +kernel
theorem dL_law__752 : decode cL_law_ 752 = .ok (.iadd, 1) := by decide +kernel
theorem dL_law__753 : decode cL_law_ 753 = .ok (.iaload, 1) := by decide +kernel
theorem dL_law__754 : decode cL_law_ 754 = .ok (.aload_n 0, 1) := by decide +kernel
theorem dL_law__755 : decode cL_law_ 755 = .ok (.iload 4, 2) := by decide +kernel
theorem dL_law__757 : decode cL_law_ 757 = .ok (.iconst 2, 1) := by decide +kernel
theorem dL_law__758 : decode cL_law_ 758 = .ok (.iadd, 1) := by decide +kernel
theorem dL_law__759 : decode cL_law_ 759 = .ok (.iaload, 1) := by decide +kernel
theorem dL_law__760 : decode cL_law_ 760 = .ok (.aload_n 0, 1) := by decide +kernel
theorem dL_law__761 : decode cL_law_ 761 = .ok (.iload 4, 2) := by decide +kernel
theorem dL_law__763 : decode cL_law_ 763 = .ok (.iconst 3, 1) := by decide +kernel
theorem dL_law__764 : decode cL_law_ 764 = .ok (.iadd, 1) := by decide +kernel
theorem dL_law__765 : decode cL_law_ 765 = .ok (.iaload, 1) := by decide +kernel
theorem dL_law__766 : decode cL_law_ 766 = .ok (.aload_n 3, 1) := by decide +kernel
theorem dL_law__767 : decode cL_law_ 767 = .ok (.invokestatic 165, 3) := by decide +kernel
theorem dL_law__770 : decode cL_law_ 770 = .ok (.istore 5, 2) := by decide +kernel
theorem dL_law__772 : decode cL_law_ 772 = .ok (.aload_n 2, 1) := by decide +kernel
theorem dL_law__773 : decode cL_law_ 773 = .ok (.aload_n 0, 1) := by decide +kernel
theorem dL_law__774 : decode cL_law_ 774 = .ok (.iload 4, 2) := by decide +kernel
theorem dL_law__776 : decode cL_law_ 776 = .ok (.iconst 1, 1) := by decide +kernel
theorem dL_law__777 : decode cL_law_ 777 = .ok (.iadd, 1) := by decide +kernel
theorem dL_law__778 : decode cL_law_ 778 = .ok (.iaload, 1) := by decide +kernel
theorem dL_law__779 : decode cL_law_ 779 = .ok (.aload_n 0, 1) := by decide +kernel
theorem dL_law__780 : decode cL_law_ 780 = .ok (.iload 4, 2) := by decide +kernel
theorem dL_law__782 : decode cL_law_ 782 = .ok (.iconst 2, 1) := by decide +kernel
theorem dL_law__783 : decode cL_law_ 783 = .ok (.iadd, 1) := by decide +kernel
theorem dL_law__784 : decode cL_law_ 784 = .ok (.iaload, 1) := by decide +kernel
theorem dL_law__785 : decode cL_law_ 785 = .ok (.aload_n 0, 1) := by decide +kernel
theorem dL_law__786 : decode cL_law_ 786 = .ok (.iload 4, 2) := by decide +kernel
theorem dL_law__788 : decode cL_law_ 788 = .ok (.iconst 3, 1) := by decide +kernel
theorem dL_law__789 : decode cL_law_ 789 = .ok (.iadd, 1) := by decide +kernel
theorem dL_law__790 : decode cL_law_ 790 = .ok (.iaload, 1) := by decide +kernel
theorem dL_law__791 : decode cL_law_ 791 = .ok (.invokevirtual 167, 3) := by decide +kernel
theorem dL_law__794 : decode cL_law_ 794 = .ok (.istore 6, 2) := by decide +kernel
theorem dL_law__796 : decode cL_law_ 796 = .ok (.aload_n 2, 1) := by decide +kernel
theorem dL_law__797 : decode cL_law_ 797 = .ok (.invokevirtual 133, 3) := by decide +kernel
theorem dL_law__800 : decode cL_law_ 800 = .ok (.iload 5, 2) := by decide +kernel
theorem dL_law__802 : decode cL_law_ 802 = .ok (.if_icmp .eq 5, 3) := by decide +kernel
theorem dL_law__805 : decode cL_law_ 805 = .ok (.iconst 0, 1) := by decide +kernel
theorem dL_law__806 : decode cL_law_ 806 = .ok (.ireturn, 1) := by decide +kernel
theorem dL_law__807 : decode cL_law_ 807 = .ok (.iload 5, 2) := by decide +kernel
theorem dL_law__809 : decode cL_law_ 809 = .ok (.ifCond .ne 15, 3) := by decide +kernel
theorem dL_law__812 : decode cL_law_ 812 = .ok (.aload_n 3, 1) := by decide +kernel
theorem dL_law__813 : decode cL_law_ 813 = .ok (.iconst 0, 1) := by decide +kernel
theorem dL_law__814 : decode cL_law_ 814 = .ok (.laload, 1) := by decide +kernel
theorem dL_law__815 : decode cL_law_ 815 = .ok (.iload 6, 2) := by decide +kernel
theorem dL_law__817 : decode cL_law_ 817 = .ok (.i2l, 1) := by decide +kernel
theorem dL_law__818 : decode cL_law_ 818 = .ok (.lcmp, 1) := by decide +kernel
theorem dL_law__819 : decode cL_law_ 819 = .ok (.ifCond .eq 5, 3) := by decide +kernel
theorem dL_law__822 : decode cL_law_ 822 = .ok (.iconst 0, 1) := by decide +kernel
theorem dL_law__823 : decode cL_law_ 823 = .ok (.ireturn, 1) := by decide +kernel
theorem dL_law__824 : decode cL_law_ 824 = .ok (.goto 1909, 3) := by decide +kernel
theorem dL_law__827 : decode cL_law_ 827 = .ok (.aload_n 1, 1) := by decide +kernel
theorem dL_law__828 : decode cL_law_ 828 = .ok (.aload_n 0, 1) := by decide +kernel
theorem dL_law__829 : decode cL_law_ 829 = .ok (.iload 4, 2) := by decide +kernel
theorem dL_law__831 : decode cL_law_ 831 = .ok (.iconst 1, 1) := by decide +kernel
theorem dL_law__832 : decode cL_law_ 832 = .ok (.iadd, 1) := by decide +kernel
theorem dL_law__833 : decode cL_law_ 833 = .ok (.iaload, 1) := by decide +kernel
theorem dL_law__834 : decode cL_law_ 834 = .ok (.aload_n 0, 1) := by decide +kernel
theorem dL_law__835 : decode cL_law_ 835 = .ok (.iload 4, 2) := by decide +kernel
theorem dL_law__837 : decode cL_law_ 837 = .ok (.iconst 2, 1) := by decide +kernel
theorem dL_law__838 : decode cL_law_ 838 = .ok (.iadd, 1) := by decide +kernel
theorem dL_law__839 : decode cL_law_ 839 = .ok (.iaload, 1) := by decide +kernel
theorem dL_law__840 : decode cL_law_ 840 = .ok (.aload_n 0, 1) := by decide +kernel
theorem dL_law__841 : decode cL_law_ 841 = .ok (.iload 4, 2) := by decide +kernel
theorem dL_law__843 : decode cL_law_ 843 = .ok (.iconst 3, 1) := by decide +kernel
theorem dL_law__844 : decode cL_law_ 844 = .ok (.iadd, 1) := by decide +kernel
theorem dL_law__845 : decode cL_law_ 845 = .ok (.iaload, 1) := by decide +kernel
theorem dL_law__846 : decode cL_law_ 846 = .ok (.aload_n 0, 1) := by decide +kernel
theorem dL_law__847 : decode cL_law_ 847 = .ok (.iload 4, 2) := by decide +kernel
theorem dL_law__849 : decode cL_law_ 849 = .ok (.iconst 4, 1) := by decide +kernel
theorem dL_law__850 : decode cL_law_ 850 = .ok (.iadd, 1) := by decide +kernel
theorem dL_law__851 : decode cL_law_ 851 = .ok (.iaload, 1) := by decide +kernel
theorem dL_law__852 : decode cL_law_ 852 = .ok (.aload_n 3, 1) := by decide +kernel
theorem dL_law__853 : decode cL_law_ 853 = .ok (.invokestatic 168, 3) := by decide +kernel
theorem dL_law__856 : decode cL_law_ 856 = .ok (.istore 5, 2) := by decide +kernel
theorem dL_law__858 : decode cL_law_ 858 = .ok (.aload_n 2, 1) := by decide +kernel
theorem dL_law__859 : decode cL_law_ 859 = .ok (.aload_n 0, 1) := by decide +kernel
theorem dL_law__860 : decode cL_law_ 860 = .ok (.iload 4, 2) := by decide +kernel
theorem dL_law__862 : decode cL_law_ 862 = .ok (.iconst 1, 1) := by decide +kernel
theorem dL_law__863 : decode cL_law_ 863 = .ok (.iadd, 1) := by decide +kernel
theorem dL_law__864 : decode cL_law_ 864 = .ok (.iaload, 1) := by decide +kernel
theorem dL_law__865 : decode cL_law_ 865 = .ok (.aload_n 0, 1) := by decide +kernel
theorem dL_law__866 : decode cL_law_ 866 = .ok (.iload 4, 2) := by decide +kernel
theorem dL_law__868 : decode cL_law_ 868 = .ok (.iconst 2, 1) := by decide +kernel
theorem dL_law__869 : decode cL_law_ 869 = .ok (.iadd, 1) := by decide +kernel
theorem dL_law__870 : decode cL_law_ 870 = .ok (.iaload, 1) := by decide +kernel
theorem dL_law__871 : decode cL_law_ 871 = .ok (.aload_n 0, 1) := by decide +kernel
theorem dL_law__872 : decode cL_law_ 872 = .ok (.iload 4, 2) := by decide +kernel
theorem dL_law__874 : decode cL_law_ 874 = .ok (.iconst 3, 1) := by decide +kernel
theorem dL_law__875 : decode cL_law_ 875 = .ok (.iadd, 1) := by decide +kernel
theorem dL_law__876 : decode cL_law_ 876 = .ok (.iaload, 1) := by decide +kernel
theorem dL_law__877 : decode cL_law_ 877 = .ok (.aload_n 0, 1) := by decide +kernel
theorem dL_law__878 : decode cL_law_ 878 = .ok (.iload 4, 2) := by decide +kernel
theorem dL_law__880 : decode cL_law_ 880 = .ok (.iconst 4, 1) := by decide +kernel
theorem dL_law__881 : decode cL_law_ 881 = .ok (.iadd, 1) := by decide +kernel
theorem dL_law__882 : decode cL_law_ 882 = .ok (.iaload, 1) := by decide +kernel
theorem dL_law__883 : decode cL_law_ 883 = .ok (.invokevirtual 171, 3) := by decide +kernel
theorem dL_law__886 : decode cL_law_ 886 = .ok (.istore 6, 2) := by decide +kernel
theorem dL_law__888 : decode cL_law_ 888 = .ok (.aload_n 2, 1) := by decide +kernel
theorem dL_law__889 : decode cL_law_ 889 = .ok (.invokevirtual 133, 3) := by decide +kernel
theorem dL_law__892 : decode cL_law_ 892 = .ok (.iload 5, 2) := by decide +kernel
theorem dL_law__894 : decode cL_law_ 894 = .ok (.if_icmp .eq 5, 3) := by decide +kernel
theorem dL_law__897 : decode cL_law_ 897 = .ok (.iconst 0, 1) := by decide +kernel
theorem dL_law__898 : decode cL_law_ 898 = .ok (.ireturn, 1) := by decide +kernel
theorem dL_law__899 : decode cL_law_ 899 = .ok (.iload 5, 2) := by decide +kernel
theorem dL_law__901 : decode cL_law_ 901 = .ok (.ifCond .ne 15, 3) := by decide +kernel
theorem dL_law__904 : decode cL_law_ 904 = .ok (.aload_n 3, 1) := by decide +kernel
theorem dL_law__905 : decode cL_law_ 905 = .ok (.iconst 0, 1) := by decide +kernel
theorem dL_law__906 : decode cL_law_ 906 = .ok (.laload, 1) := by decide +kernel
theorem dL_law__907 : decode cL_law_ 907 = .ok (.iload 6, 2) := by decide +kernel
theorem dL_law__909 : decode cL_law_ 909 = .ok (.i2l, 1) := by decide +kernel
theorem dL_law__910 : decode cL_law_ 910 = .ok (.lcmp, 1) := by decide +kernel
theorem dL_law__911 : decode cL_law_ 911 = .ok (.ifCond .eq 5, 3) := by decide +kernel
theorem dL_law__914 : decode cL_law_ 914 = .ok (.iconst 0, 1) := by decide +kernel
theorem dL_law__915 : decode cL_law_ 915 = .ok (.ireturn, 1) := by decide +kernel
theorem dL_law__916 : decode cL_law_ 916 = .ok (.goto 1817, 3) := by decide +kernel
theorem dL_law__919 : decode cL_law_ 919 = .ok (.aload_n 1, 1) := by decide +kernel
theorem dL_law__920 : decode cL_law_ 920 = .ok (.aload_n 0, 1) := by decide +kernel
theorem dL_law__921 : decode cL_law_ 921 = .ok (.iload 4, 2) := by decide +kernel
theorem dL_law__923 : decode cL_law_ 923 = .ok (.iconst 1, 1) := by decide +kernel
theorem dL_law__924 : decode cL_law_ 924 = .ok (.iadd, 1) := by decide +kernel
theorem dL_law__925 : decode cL_law_ 925 = .ok (.iaload, 1) := by decide +kernel
theorem dL_law__926 : decode cL_law_ 926 = .ok (.aload_n 0, 1) := by decide +kernel
theorem dL_law__927 : decode cL_law_ 927 = .ok (.iload 4, 2) := by decide +kernel
theorem dL_law__929 : decode cL_law_ 929 = .ok (.iconst 2, 1) := by decide +kernel
theorem dL_law__930 : decode cL_law_ 930 = .ok (.iadd, 1) := by decide +kernel
theorem dL_law__931 : decode cL_law_ 931 = .ok (.iaload, 1) := by decide +kernel
theorem dL_law__932 : decode cL_law_ 932 = .ok (.aload_n 3, 1) := by decide +kernel
theorem dL_law__933 : decode cL_law_ 933 = .ok (.invokestatic 172, 3) := by decide +kernel
theorem dL_law__936 : decode cL_law_ 936 = .ok (.istore 5, 2) := by decide +kernel
theorem dL_law__938 : decode cL_law_ 938 = .ok (.aload_n 2, 1) := by decide +kernel
theorem dL_law__939 : decode cL_law_ 939 = .ok (.aload_n 0, 1) := by decide +kernel
theorem dL_law__940 : decode cL_law_ 940 = .ok (.iload 4, 2) := by decide +kernel
theorem dL_law__942 : decode cL_law_ 942 = .ok (.iconst 1, 1) := by decide +kernel
theorem dL_law__943 : decode cL_law_ 943 = .ok (.iadd, 1) := by decide +kernel
theorem dL_law__944 : decode cL_law_ 944 = .ok (.iaload, 1) := by decide +kernel
theorem dL_law__945 : decode cL_law_ 945 = .ok (.aload_n 0, 1) := by decide +kernel
theorem dL_law__946 : decode cL_law_ 946 = .ok (.iload 4, 2) := by decide +kernel
theorem dL_law__948 : decode cL_law_ 948 = .ok (.iconst 2, 1) := by decide +kernel
theorem dL_law__949 : decode cL_law_ 949 = .ok (.iadd, 1) := by decide +kernel
theorem dL_law__950 : decode cL_law_ 950 = .ok (.iaload, 1) := by decide +kernel
theorem dL_law__951 : decode cL_law_ 951 = .ok (.invokevirtual 174, 3) := by decide +kernel
theorem dL_law__954 : decode cL_law_ 954 = .ok (.istore 6, 2) := by decide +kernel
theorem dL_law__956 : decode cL_law_ 956 = .ok (.aload_n 2, 1) := by decide +kernel
theorem dL_law__957 : decode cL_law_ 957 = .ok (.invokevirtual 133, 3) := by decide +kernel
theorem dL_law__960 : decode cL_law_ 960 = .ok (.iload 5, 2) := by decide +kernel
theorem dL_law__962 : decode cL_law_ 962 = .ok (.if_icmp .eq 5, 3) := by decide +kernel
theorem dL_law__965 : decode cL_law_ 965 = .ok (.iconst 0, 1) := by decide +kernel
theorem dL_law__966 : decode cL_law_ 966 = .ok (.ireturn, 1) := by decide +kernel
theorem dL_law__967 : decode cL_law_ 967 = .ok (.iload 5, 2) := by decide +kernel
theorem dL_law__969 : decode cL_law_ 969 = .ok (.ifCond .ne 15, 3) := by decide +kernel
theorem dL_law__972 : decode cL_law_ 972 = .ok (.aload_n 3, 1) := by decide +kernel
theorem dL_law__973 : decode cL_law_ 973 = .ok (.iconst 0, 1) := by decide +kernel
theorem dL_law__974 : decode cL_law_ 974 = .ok (.laload, 1) := by decide +kernel
theorem dL_law__975 : decode cL_law_ 975 = .ok (.iload 6, 2) := by decide +kernel
theorem dL_law__977 : decode cL_law_ 977 = .ok (.i2l, 1) := by decide +kernel
theorem dL_law__978 : decode cL_law_ 978 = .ok (.lcmp, 1) := by decide +kernel
theorem dL_law__979 : decode cL_law_ 979 = .ok (.ifCond .eq 5, 3) := by decide +kernel
theorem dL_law__982 : decode cL_law_ 982 = .ok (.iconst 0, 1) := by decide +kernel
theorem dL_law__983 : decode cL_law_ 983 = .ok (.ireturn, 1) := by decide +kernel
theorem dL_law__984 : decode cL_law_ 984 = .ok (.goto 1749, 3) := by decide +kernel
theorem dL_law__987 : decode cL_law_ 987 = .ok (.aload_n 1, 1) := by decide +kernel
theorem dL_law__988 : decode cL_law_ 988 = .ok (.aload_n 0, 1) := by decide +kernel
theorem dL_law__989 : decode cL_law_ 989 = .ok (.iload 4, 2) := by decide +kernel
theorem dL_law__991 : decode cL_law_ 991 = .ok (.iconst 1, 1) := by decide +kernel
theorem dL_law__992 : decode cL_law_ 992 = .ok (.iadd, 1) := by decide +kernel
theorem dL_law__993 : decode cL_law_ 993 = .ok (.iaload, 1) := by decide +kernel
theorem dL_law__994 : decode cL_law_ 994 = .ok (.aload_n 0, 1) := by decide +kernel
theorem dL_law__995 : decode cL_law_ 995 = .ok (.iload 4, 2) := by decide +kernel
theorem dL_law__997 : decode cL_law_ 997 = .ok (.iconst 2, 1) := by decide +kernel
theorem dL_law__998 : decode cL_law_ 998 = .ok (.iadd, 1) := by decide +kernel
theorem dL_law__999 : decode cL_law_ 999 = .ok (.iaload, 1) := by decide +kernel
theorem dL_law__1000 : decode cL_law_ 1000 = .ok (.aload_n 3, 1) := by decide +kernel
theorem dL_law__1001 : decode cL_law_ 1001 = .ok (.invokestatic 175, 3) := by decide +kernel
theorem dL_law__1004 : decode cL_law_ 1004 = .ok (.istore 5, 2) := by decide +kernel
theorem dL_law__1006 : decode cL_law_ 1006 = .ok (.aload_n 2, 1) := by decide +kernel
theorem dL_law__1007 : decode cL_law_ 1007 = .ok (.aload_n 0, 1) := by decide +kernel
theorem dL_law__1008 : decode cL_law_ 1008 = .ok (.iload 4, 2) := by decide +kernel
theorem dL_law__1010 : decode cL_law_ 1010 = .ok (.iconst 1, 1) := by decide +kernel
theorem dL_law__1011 : decode cL_law_ 1011 = .ok (.iadd, 1) := by decide +kernel
theorem dL_law__1012 : decode cL_law_ 1012 = .ok (.iaload, 1) := by decide +kernel
theorem dL_law__1013 : decode cL_law_ 1013 = .ok (.aload_n 0, 1) := by decide +kernel
theorem dL_law__1014 : decode cL_law_ 1014 = .ok (.iload 4, 2) := by decide +kernel
theorem dL_law__1016 : decode cL_law_ 1016 = .ok (.iconst 2, 1) := by decide +kernel
theorem dL_law__1017 : decode cL_law_ 1017 = .ok (.iadd, 1) := by decide +kernel
theorem dL_law__1018 : decode cL_law_ 1018 = .ok (.iaload, 1) := by decide +kernel
theorem dL_law__1019 : decode cL_law_ 1019 = .ok (.invokevirtual 177, 3) := by decide +kernel
theorem dL_law__1022 : decode cL_law_ 1022 = .ok (.istore 6, 2) := by decide +kernel
theorem dL_law__1024 : decode cL_law_ 1024 = .ok (.aload_n 2, 1) := by decide +kernel
theorem dL_law__1025 : decode cL_law_ 1025 = .ok (.invokevirtual 133, 3) := by decide +kernel
theorem dL_law__1028 : decode cL_law_ 1028 = .ok (.iload 5, 2) := by decide +kernel
theorem dL_law__1030 : decode cL_law_ 1030 = .ok (.if_icmp .eq 5, 3) := by decide +kernel
theorem dL_law__1033 : decode cL_law_ 1033 = .ok (.iconst 0, 1) := by decide +kernel
theorem dL_law__1034 : decode cL_law_ 1034 = .ok (.ireturn, 1) := by decide +kernel
theorem dL_law__1035 : decode cL_law_ 1035 = .ok (.iload 5, 2) := by decide +kernel
theorem dL_law__1037 : decode cL_law_ 1037 = .ok (.ifCond .ne 15, 3) := by decide +kernel
theorem dL_law__1040 : decode cL_law_ 1040 = .ok (.aload_n 3, 1) := by decide +kernel
theorem dL_law__1041 : decode cL_law_ 1041 = .ok (.iconst 0, 1) := by decide +kernel
theorem dL_law__1042 : decode cL_law_ 1042 = .ok (.laload, 1) := by decide +kernel
theorem dL_law__1043 : decode cL_law_ 1043 = .ok (.iload 6, 2) := by decide +kernel
theorem dL_law__1045 : decode cL_law_ 1045 = .ok (.i2l, 1) := by decide +kernel
theorem dL_law__1046 : decode cL_law_ 1046 = .ok (.lcmp, 1) := by decide +kernel
theorem dL_law__1047 : decode cL_law_ 1047 = .ok (.ifCond .eq 5, 3) := by decide +kernel
theorem dL_law__1050 : decode cL_law_ 1050 = .ok (.iconst 0, 1) := by decide +kernel
theorem dL_law__1051 : decode cL_law_ 1051 = .ok (.ireturn, 1) := by decide +kernel
theorem dL_law__1052 : decode cL_law_ 1052 = .ok (.goto 1681, 3) := by decide +kernel
theorem dL_law__1055 : decode cL_law_ 1055 = .ok (.aload_n 1, 1) := by decide +kernel
theorem dL_law__1056 : decode cL_law_ 1056 = .ok (.aload_n 0, 1) := by decide +kernel
theorem dL_law__1057 : decode cL_law_ 1057 = .ok (.iload 4, 2) := by decide +kernel
theorem dL_law__1059 : decode cL_law_ 1059 = .ok (.iconst 1, 1) := by decide +kernel
theorem dL_law__1060 : decode cL_law_ 1060 = .ok (.iadd, 1) := by decide +kernel
theorem dL_law__1061 : decode cL_law_ 1061 = .ok (.iaload, 1) := by decide +kernel
theorem dL_law__1062 : decode cL_law_ 1062 = .ok (.aload_n 0, 1) := by decide +kernel
theorem dL_law__1063 : decode cL_law_ 1063 = .ok (.iload 4, 2) := by decide +kernel
theorem dL_law__1065 : decode cL_law_ 1065 = .ok (.iconst 2, 1) := by decide +kernel
theorem dL_law__1066 : decode cL_law_ 1066 = .ok (.iadd, 1) := by decide +kernel
theorem dL_law__1067 : decode cL_law_ 1067 = .ok (.iaload, 1) := by decide +kernel
theorem dL_law__1068 : decode cL_law_ 1068 = .ok (.aload_n 3, 1) := by decide +kernel
theorem dL_law__1069 : decode cL_law_ 1069 = .ok (.invokestatic 178, 3) := by decide +kernel
theorem dL_law__1072 : decode cL_law_ 1072 = .ok (.istore 5, 2) := by decide +kernel
theorem dL_law__1074 : decode cL_law_ 1074 = .ok (.aload_n 2, 1) := by decide +kernel
theorem dL_law__1075 : decode cL_law_ 1075 = .ok (.aload_n 0, 1) := by decide +kernel
theorem dL_law__1076 : decode cL_law_ 1076 = .ok (.iload 4, 2) := by decide +kernel
theorem dL_law__1078 : decode cL_law_ 1078 = .ok (.iconst 1, 1) := by decide +kernel
theorem dL_law__1079 : decode cL_law_ 1079 = .ok (.iadd, 1) := by decide +kernel
theorem dL_law__1080 : decode cL_law_ 1080 = .ok (.iaload, 1) := by decide +kernel
theorem dL_law__1081 : decode cL_law_ 1081 = .ok (.aload_n 0, 1) := by decide +kernel
theorem dL_law__1082 : decode cL_law_ 1082 = .ok (.iload 4, 2) := by decide +kernel
theorem dL_law__1084 : decode cL_law_ 1084 = .ok (.iconst 2, 1) := by decide +kernel
theorem dL_law__1085 : decode cL_law_ 1085 = .ok (.iadd, 1) := by decide +kernel
theorem dL_law__1086 : decode cL_law_ 1086 = .ok (.iaload, 1) := by decide +kernel
theorem dL_law__1087 : decode cL_law_ 1087 = .ok (.invokevirtual 180, 3) := by decide +kernel
theorem dL_law__1090 : decode cL_law_ 1090 = .ok (.istore 6, 2) := by decide +kernel
theorem dL_law__1092 : decode cL_law_ 1092 = .ok (.aload_n 2, 1) := by decide +kernel
theorem dL_law__1093 : decode cL_law_ 1093 = .ok (.invokevirtual 133, 3) := by decide +kernel
theorem dL_law__1096 : decode cL_law_ 1096 = .ok (.iload 5, 2) := by decide +kernel
theorem dL_law__1098 : decode cL_law_ 1098 = .ok (.if_icmp .eq 5, 3) := by decide +kernel
theorem dL_law__1101 : decode cL_law_ 1101 = .ok (.iconst 0, 1) := by decide +kernel
theorem dL_law__1102 : decode cL_law_ 1102 = .ok (.ireturn, 1) := by decide +kernel
theorem dL_law__1103 : decode cL_law_ 1103 = .ok (.iload 5, 2) := by decide +kernel
theorem dL_law__1105 : decode cL_law_ 1105 = .ok (.ifCond .ne 15, 3) := by decide +kernel
theorem dL_law__1108 : decode cL_law_ 1108 = .ok (.aload_n 3, 1) := by decide +kernel
theorem dL_law__1109 : decode cL_law_ 1109 = .ok (.iconst 0, 1) := by decide +kernel
theorem dL_law__1110 : decode cL_law_ 1110 = .ok (.laload, 1) := by decide +kernel
theorem dL_law__1111 : decode cL_law_ 1111 = .ok (.iload 6, 2) := by decide +kernel
theorem dL_law__1113 : decode cL_law_ 1113 = .ok (.i2l, 1) := by decide +kernel
theorem dL_law__1114 : decode cL_law_ 1114 = .ok (.lcmp, 1) := by decide +kernel
theorem dL_law__1115 : decode cL_law_ 1115 = .ok (.ifCond .eq 5, 3) := by decide +kernel
theorem dL_law__1118 : decode cL_law_ 1118 = .ok (.iconst 0, 1) := by decide +kernel
theorem dL_law__1119 : decode cL_law_ 1119 = .ok (.ireturn, 1) := by decide +kernel
theorem dL_law__1120 : decode cL_law_ 1120 = .ok (.goto 1613, 3) := by decide +kernel
theorem dL_law__1123 : decode cL_law_ 1123 = .ok (.aload_n 1, 1) := by decide +kernel
theorem dL_law__1124 : decode cL_law_ 1124 = .ok (.aload_n 0, 1) := by decide +kernel
theorem dL_law__1125 : decode cL_law_ 1125 = .ok (.iload 4, 2) := by decide +kernel
theorem dL_law__1127 : decode cL_law_ 1127 = .ok (.iconst 1, 1) := by decide +kernel
theorem dL_law__1128 : decode cL_law_ 1128 = .ok (.iadd, 1) := by decide +kernel
theorem dL_law__1129 : decode cL_law_ 1129 = .ok (.iaload, 1) := by decide +kernel
theorem dL_law__1130 : decode cL_law_ 1130 = .ok (.aload_n 0, 1) := by decide +kernel
theorem dL_law__1131 : decode cL_law_ 1131 = .ok (.iload 4, 2) := by decide +kernel
theorem dL_law__1133 : decode cL_law_ 1133 = .ok (.iconst 2, 1) := by decide +kernel
theorem dL_law__1134 : decode cL_law_ 1134 = .ok (.iadd, 1) := by decide +kernel
theorem dL_law__1135 : decode cL_law_ 1135 = .ok (.iaload, 1) := by decide +kernel
theorem dL_law__1136 : decode cL_law_ 1136 = .ok (.aload_n 0, 1) := by decide +kernel
theorem dL_law__1137 : decode cL_law_ 1137 = .ok (.iload 4, 2) := by decide +kernel
theorem dL_law__1139 : decode cL_law_ 1139 = .ok (.iconst 3, 1) := by decide +kernel
theorem dL_law__1140 : decode cL_law_ 1140 = .ok (.iadd, 1) := by decide +kernel
theorem dL_law__1141 : decode cL_law_ 1141 = .ok (.iaload, 1) := by decide +kernel
theorem dL_law__1142 : decode cL_law_ 1142 = .ok (.aload_n 3, 1) := by decide +kernel
theorem dL_law__1143 : decode cL_law_ 1143 = .ok (.invokestatic 181, 3) := by decide +kernel
theorem dL_law__1146 : decode cL_law_ 1146 = .ok (.istore 5, 2) := by decide +kernel
theorem dL_law__1148 : decode cL_law_ 1148 = .ok (.aload_n 2, 1) := by decide +kernel
theorem dL_law__1149 : decode cL_law_ 1149 = .ok (.aload_n 0, 1) := by decide +kernel
theorem dL_law__1150 : decode cL_law_ 1150 = .ok (.iload 4, 2) := by decide +kernel
theorem dL_law__1152 : decode cL_law_ 1152 = .ok (.iconst 1, 1) := by decide +kernel
theorem dL_law__1153 : decode cL_law_ 1153 = .ok (.iadd, 1) := by decide +kernel
theorem dL_law__1154 : decode cL_law_ 1154 = .ok (.iaload, 1) := by decide +kernel
theorem dL_law__1155 : decode cL_law_ 1155 = .ok (.aload_n 0, 1) := by decide +kernel
theorem dL_law__1156 : decode cL_law_ 1156 = .ok (.iload 4, 2) := by decide +kernel
theorem dL_law__1158 : decode cL_law_ 1158 = .ok (.iconst 2, 1) := by decide +kernel
theorem dL_law__1159 : decode cL_law_ 1159 = .ok (.iadd, 1) := by decide +kernel
theorem dL_law__1160 : decode cL_law_ 1160 = .ok (.iaload, 1) := by decide +kernel
theorem dL_law__1161 : decode cL_law_ 1161 = .ok (.aload_n 0, 1) := by decide +kernel
theorem dL_law__1162 : decode cL_law_ 1162 = .ok (.iload 4, 2) := by decide +kernel
theorem dL_law__1164 : decode cL_law_ 1164 = .ok (.iconst 3, 1) := by decide +kernel
theorem dL_law__1165 : decode cL_law_ 1165 = .ok (.iadd, 1) := by decide +kernel
theorem dL_law__1166 : decode cL_law_ 1166 = .ok (.iaload, 1) := by decide +kernel
theorem dL_law__1167 : decode cL_law_ 1167 = .ok (.invokevirtual 183, 3) := by decide +kernel
theorem dL_law__1170 : decode cL_law_ 1170 = .ok (.istore 6, 2) := by decide +kernel
theorem dL_law__1172 : decode cL_law_ 1172 = .ok (.aload_n 2, 1) := by decide +kernel
theorem dL_law__1173 : decode cL_law_ 1173 = .ok (.invokevirtual 133, 3) := by decide +kernel
theorem dL_law__1176 : decode cL_law_ 1176 = .ok (.iload 5, 2) := by decide +kernel
theorem dL_law__1178 : decode cL_law_ 1178 = .ok (.if_icmp .eq 5, 3) := by decide +kernel
theorem dL_law__1181 : decode cL_law_ 1181 = .ok (.iconst 0, 1) := by decide +kernel
theorem dL_law__1182 : decode cL_law_ 1182 = .ok (.ireturn, 1) := by decide +kernel
theorem dL_law__1183 : decode cL_law_ 1183 = .ok (.iload 5, 2) := by decide +kernel
theorem dL_law__1185 : decode cL_law_ 1185 = .ok (.ifCond .ne 22, 3) := by decide +kernel
theorem dL_law__1188 : decode cL_law_ 1188 = .ok (.aload_n 3, 1) := by decide +kernel
theorem dL_law__1189 : decode cL_law_ 1189 = .ok (.iconst 0, 1) := by decide +kernel
theorem dL_law__1190 : decode cL_law_ 1190 = .ok (.laload, 1) := by decide +kernel
theorem dL_law__1191 : decode cL_law_ 1191 = .ok (.iload 6, 2) := by decide +kernel
theorem dL_law__1193 : decode cL_law_ 1193 = .ok (.ifCond .eq 7, 3) := by decide +kernel
theorem dL_law__1196 : decode cL_law_ 1196 = .ok (.lconst 1, 1) := by decide +kernel
theorem dL_law__1197 : decode cL_law_ 1197 = .ok (.goto 4, 3) := by decide +kernel
theorem dL_law__1200 : decode cL_law_ 1200 = .ok (.lconst 0, 1) := by decide +kernel
theorem dL_law__1201 : decode cL_law_ 1201 = .ok (.lcmp, 1) := by decide +kernel
theorem dL_law__1202 : decode cL_law_ 1202 = .ok (.ifCond .eq 5, 3) := by decide +kernel
theorem dL_law__1205 : decode cL_law_ 1205 = .ok (.iconst 0, 1) := by decide +kernel
theorem dL_law__1206 : decode cL_law_ 1206 = .ok (.ireturn, 1) := by decide +kernel
theorem dL_law__1207 : decode cL_law_ 1207 = .ok (.goto 1526, 3) := by decide +kernel
theorem dL_law__1210 : decode cL_law_ 1210 = .ok (.aload_n 1, 1) := by decide +kernel
theorem dL_law__1211 : decode cL_law_ 1211 = .ok (.aload_n 0, 1) := by decide +kernel
theorem dL_law__1212 : decode cL_law_ 1212 = .ok (.iload 4, 2) := by decide +kernel
theorem dL_law__1214 : decode cL_law_ 1214 = .ok (.iconst 1, 1) := by decide +kernel
theorem dL_law__1215 : decode cL_law_ 1215 = .ok (.iadd, 1) := by decide +kernel
theorem dL_law__1216 : decode cL_law_ 1216 = .ok (.iaload, 1) := by decide +kernel
theorem dL_law__1217 : decode cL_law_ 1217 = .ok (.aload_n 0, 1) := by decide +kernel
theorem dL_law__1218 : decode cL_law_ 1218 = .ok (.iload 4, 2) := by decide +kernel
theorem dL_law__1220 : decode cL_law_ 1220 = .ok (.iconst 2, 1) := by decide +kernel
theorem dL_law__1221 : decode cL_law_ 1221 = .ok (.iadd, 1) := by decide +kernel
theorem dL_law__1222 : decode cL_law_ 1222 = .ok (.iaload, 1) := by decide +kernel
theorem dL_law__1223 : decode cL_law_ 1223 = .ok (.aload_n 3, 1) := by decide +kernel
theorem dL_law__1224 : decode cL_law_ 1224 = .ok (.invokestatic 184, 3) := by decide +kernel
theorem dL_law__1227 : decode cL_law_ 1227 = .ok (.istore 5, 2) := by decide +kernel
theorem dL_law__1229 : decode cL_law_ 1229 = .ok (.aload_n 2, 1) := by decide +kernel
theorem dL_law__1230 : decode cL_law_ 1230 = .ok (.aload_n 0, 1) := by decide +kernel
theorem dL_law__1231 : decode cL_law_ 1231 = .ok (.iload 4, 2) := by decide +kernel
theorem dL_law__1233 : decode cL_law_ 1233 = .ok (.iconst 1, 1) := by decide +kernel
theorem dL_law__1234 : decode cL_law_ 1234 = .ok (.iadd, 1) := by decide +kernel
theorem dL_law__1235 : decode cL_law_ 1235 = .ok (.iaload, 1) := by decide +kernel
theorem dL_law__1236 : decode cL_law_ 1236 = .ok (.aload_n 0, 1) := by decide +kernel
theorem dL_law__1237 : decode cL_law_ 1237 = .ok (.iload 4, 2) := by decide +kernel
theorem dL_law__1239 : decode cL_law_ 1239 = .ok (.iconst 2, 1) := by decide +kernel
theorem dL_law__1240 : decode cL_law_ 1240 = .ok (.iadd, 1) := by decide +kernel
theorem dL_law__1241 : decode cL_law_ 1241 = .ok (.iaload, 1) := by decide +kernel
theorem dL_law__1242 : decode cL_law_ 1242 = .ok (.invokevirtual 186, 3) := by decide +kernel
theorem dL_law__1245 : decode cL_law_ 1245 = .ok (.istore 6, 2) := by decide +kernel
theorem dL_law__1247 : decode cL_law_ 1247 = .ok (.aload_n 2, 1) := by decide +kernel
theorem dL_law__1248 : decode cL_law_ 1248 = .ok (.invokevirtual 133, 3) := by decide +kernel
theorem dL_law__1251 : decode cL_law_ 1251 = .ok (.iload 5, 2) := by decide +kernel
theorem dL_law__1253 : decode cL_law_ 1253 = .ok (.if_icmp .eq 5, 3) := by decide +kernel
theorem dL_law__1256 : decode cL_law_ 1256 = .ok (.iconst 0, 1) := by decide +kernel
theorem dL_law__1257 : decode cL_law_ 1257 = .ok (.ireturn, 1) := by decide +kernel
theorem dL_law__1258 : decode cL_law_ 1258 = .ok (.iload 5, 2) := by decide +kernel
theorem dL_law__1260 : decode cL_law_ 1260 = .ok (.ifCond .ne 15, 3) := by decide +kernel
theorem dL_law__1263 : decode cL_law_ 1263 = .ok (.aload_n 3, 1) := by decide +kernel
theorem dL_law__1264 : decode cL_law_ 1264 = .ok (.iconst 0, 1) := by decide +kernel
theorem dL_law__1265 : decode cL_law_ 1265 = .ok (.laload, 1) := by decide +kernel
theorem dL_law__1266 : decode cL_law_ 1266 = .ok (.iload 6, 2) := by decide +kernel
theorem dL_law__1268 : decode cL_law_ 1268 = .ok (.i2l, 1) := by decide +kernel
theorem dL_law__1269 : decode cL_law_ 1269 = .ok (.lcmp, 1) := by decide +kernel
theorem dL_law__1270 : decode cL_law_ 1270 = .ok (.ifCond .eq 5, 3) := by decide +kernel
theorem dL_law__1273 : decode cL_law_ 1273 = .ok (.iconst 0, 1) := by decide +kernel
theorem dL_law__1274 : decode cL_law_ 1274 = .ok (.ireturn, 1) := by decide +kernel
theorem dL_law__1275 : decode cL_law_ 1275 = .ok (.goto 1458, 3) := by decide +kernel
theorem dL_law__1278 : decode cL_law_ 1278 = .ok (.aload_n 1, 1) := by decide +kernel
theorem dL_law__1279 : decode cL_law_ 1279 = .ok (.aload_n 0, 1) := by decide +kernel
theorem dL_law__1280 : decode cL_law_ 1280 = .ok (.iload 4, 2) := by decide +kernel
theorem dL_law__1282 : decode cL_law_ 1282 = .ok (.iconst 1, 1) := by decide +kernel
theorem dL_law__1283 : decode cL_law_ 1283 = .ok (.iadd, 1) := by decide +kernel
theorem dL_law__1284 : decode cL_law_ 1284 = .ok (.iaload, 1) := by decide +kernel
theorem dL_law__1285 : decode cL_law_ 1285 = .ok (.aload_n 3, 1) := by decide +kernel
theorem dL_law__1286 : decode cL_law_ 1286 = .ok (.invokestatic 187, 3) := by decide +kernel
theorem dL_law__1289 : decode cL_law_ 1289 = .ok (.istore 5, 2) := by decide +kernel
theorem dL_law__1291 : decode cL_law_ 1291 = .ok (.aload_n 2, 1) := by decide +kernel
theorem dL_law__1292 : decode cL_law_ 1292 = .ok (.aload_n 0, 1) := by decide +kernel
theorem dL_law__1293 : decode cL_law_ 1293 = .ok (.iload 4, 2) := by decide +kernel
theorem dL_law__1295 : decode cL_law_ 1295 = .ok (.iconst 1, 1) := by decide +kernel
theorem dL_law__1296 : decode cL_law_ 1296 = .ok (.iadd, 1) := by decide +kernel
theorem dL_law__1297 : decode cL_law_ 1297 = .ok (.iaload, 1) := by decide +kernel
theorem dL_law__1298 : decode cL_law_ 1298 = .ok (.invokevirtual 189, 3) := by decide +kernel
theorem dL_law__1301 : decode cL_law_ 1301 = .ok (.istore 6, 2) := by decide +kernel
theorem dL_law__1303 : decode cL_law_ 1303 = .ok (.aload_n 2, 1) := by decide +kernel
theorem dL_law__1304 : decode cL_law_ 1304 = .ok (.invokevirtual 133, 3) := by decide +kernel
theorem dL_law__1307 : decode cL_law_ 1307 = .ok (.iload 5, 2) := by decide +kernel
theorem dL_law__1309 : decode cL_law_ 1309 = .ok (.if_icmp .eq 5, 3) := by decide +kernel
theorem dL_law__1312 : decode cL_law_ 1312 = .ok (.iconst 0, 1) := by decide +kernel
theorem dL_law__1313 : decode cL_law_ 1313 = .ok (.ireturn, 1) := by decide +kernel
theorem dL_law__1314 : decode cL_law_ 1314 = .ok (.iload 5, 2) := by decide +kernel
theorem dL_law__1316 : decode cL_law_ 1316 = .ok (.ifCond .ne 15, 3) := by decide +kernel
theorem dL_law__1319 : decode cL_law_ 1319 = .ok (.aload_n 3, 1) := by decide +kernel
theorem dL_law__1320 : decode cL_law_ 1320 = .ok (.iconst 0, 1) := by decide +kernel
theorem dL_law__1321 : decode cL_law_ 1321 = .ok (.laload, 1) := by decide +kernel
theorem dL_law__1322 : decode cL_law_ 1322 = .ok (.iload 6, 2) := by decide +kernel
theorem dL_law__1324 : decode cL_law_ 1324 = .ok (.i2l, 1) := by decide +kernel
theorem dL_law__1325 : decode cL_law_ 1325 = .ok (.lcmp, 1) := by decide +kernel
theorem dL_law__1326 : decode cL_law_ 1326 = .ok (.ifCond .eq 5, 3) := by decide +kernel
theorem dL_law__1329 : decode cL_law_ 1329 = .ok (.iconst 0, 1) := by decide +kernel
theorem dL_law__1330 : decode cL_law_ 1330 = .ok (.ireturn, 1) := by decide +kernel
theorem dL_law__1331 : decode cL_law_ 1331 = .ok (.goto 1402, 3) := by decide +kernel
theorem dL_law__1334 : decode cL_law_ 1334 = .ok (.aload_n 1, 1) := by decide +kernel
theorem dL_law__1335 : decode cL_law_ 1335 = .ok (.invokevirtual 190, 3) := by decide +kernel
theorem dL_law__1338 : decode cL_law_ 1338 = .ok (.aload_n 2, 1) := by decide +kernel
theorem dL_law__1339 : decode cL_law_ 1339 = .ok (.invokevirtual 193, 3) := by decide +kernel
theorem dL_law__1342 : decode cL_law_ 1342 = .ok (.if_icmp .eq 1391, 3) := by decide +kernel
theorem dL_law__1345 : decode cL_law_ 1345 = .ok (.iconst 0, 1) := by decide +kernel
theorem dL_law__1346 : decode cL_law_ 1346 = .ok (.ireturn, 1) := by decide +kernel
theorem dL_law__1347 : decode cL_law_ 1347 = .ok (.aload_n 1, 1) := by decide +kernel
theorem dL_law__1348 : decode cL_law_ 1348 = .ok (.aload_n 0, 1) := by decide +kernel
theorem dL_law__1349 : decode cL_law_ 1349 = .ok (.iload 4, 2) := by decide +kernel
theorem dL_law__1351 : decode cL_law_ 1351 = .ok (.iconst 1, 1) := by decide +kernel
theorem dL_law__1352 : decode cL_law_ 1352 = .ok (.iadd, 1) := by decide +kernel
theorem dL_law__1353 : decode cL_law_ 1353 = .ok (.iaload, 1) := by decide +kernel
theorem dL_law__1354 : decode cL_law_ 1354 = .ok (.aload_n 0, 1) := by decide +kernel
theorem dL_law__1355 : decode cL_law_ 1355 = .ok (.iload 4, 2) := by decide +kernel
theorem dL_law__1357 : decode cL_law_ 1357 = .ok (.iconst 2, 1) := by decide +kernel
theorem dL_law__1358 : decode cL_law_ 1358 = .ok (.iadd, 1) := by decide +kernel
theorem dL_law__1359 : decode cL_law_ 1359 = .ok (.iaload, 1) := by decide +kernel
theorem dL_law__1360 : decode cL_law_ 1360 = .ok (.aload_n 0, 1) := by decide +kernel
theorem dL_law__1361 : decode cL_law_ 1361 = .ok (.iload 4, 2) := by decide +kernel
theorem dL_law__1363 : decode cL_law_ 1363 = .ok (.iconst 3, 1) := by decide +kernel
theorem dL_law__1364 : decode cL_law_ 1364 = .ok (.iadd, 1) := by decide +kernel
theorem dL_law__1365 : decode cL_law_ 1365 = .ok (.iaload, 1) := by decide +kernel
theorem dL_law__1366 : decode cL_law_ 1366 = .ok (.aload_n 3, 1) := by decide +kernel
theorem dL_law__1367 : decode cL_law_ 1367 = .ok (.invokestatic 194, 3) := by decide +kernel
theorem dL_law__1370 : decode cL_law_ 1370 = .ok (.istore 5, 2) := by decide +kernel
theorem dL_law__1372 : decode cL_law_ 1372 = .ok (.aload_n 2, 1) := by decide +kernel
theorem dL_law__1373 : decode cL_law_ 1373 = .ok (.aload_n 0, 1) := by decide +kernel
theorem dL_law__1374 : decode cL_law_ 1374 = .ok (.iload 4, 2) := by decide +kernel
theorem dL_law__1376 : decode cL_law_ 1376 = .ok (.iconst 1, 1) := by decide +kernel
theorem dL_law__1377 : decode cL_law_ 1377 = .ok (.iadd, 1) := by decide +kernel
theorem dL_law__1378 : decode cL_law_ 1378 = .ok (.iaload, 1) := by decide +kernel
theorem dL_law__1379 : decode cL_law_ 1379 = .ok (.aload_n 0, 1) := by decide +kernel
theorem dL_law__1380 : decode cL_law_ 1380 = .ok (.iload 4, 2) := by decide +kernel
theorem dL_law__1382 : decode cL_law_ 1382 = .ok (.iconst 2, 1) := by decide +kernel
theorem dL_law__1383 : decode cL_law_ 1383 = .ok (.iadd, 1) := by decide +kernel
theorem dL_law__1384 : decode cL_law_ 1384 = .ok (.iaload, 1) := by decide +kernel
theorem dL_law__1385 : decode cL_law_ 1385 = .ok (.aload_n 0, 1) := by decide +kernel
theorem dL_law__1386 : decode cL_law_ 1386 = .ok (.iload 4, 2) := by decide +kernel
theorem dL_law__1388 : decode cL_law_ 1388 = .ok (.iconst 3, 1) := by decide +kernel
theorem dL_law__1389 : decode cL_law_ 1389 = .ok (.iadd, 1) := by decide +kernel
theorem dL_law__1390 : decode cL_law_ 1390 = .ok (.iaload, 1) := by decide +kernel
theorem dL_law__1391 : decode cL_law_ 1391 = .ok (.invokevirtual 196, 3) := by decide +kernel
theorem dL_law__1394 : decode cL_law_ 1394 = .ok (.istore 6, 2) := by decide +kernel
theorem dL_law__1396 : decode cL_law_ 1396 = .ok (.aload_n 2, 1) := by decide +kernel
theorem dL_law__1397 : decode cL_law_ 1397 = .ok (.invokevirtual 133, 3) := by decide +kernel
theorem dL_law__1400 : decode cL_law_ 1400 = .ok (.iload 5, 2) := by decide +kernel
theorem dL_law__1402 : decode cL_law_ 1402 = .ok (.if_icmp .eq 5, 3) := by decide +kernel
theorem dL_law__1405 : decode cL_law_ 1405 = .ok (.iconst 0, 1) := by decide +kernel
theorem dL_law__1406 : decode cL_law_ 1406 = .ok (.ireturn, 1) := by decide +kernel
theorem dL_law__1407 : decode cL_law_ 1407 = .ok (.iload 5, 2) := by decide +kernel
theorem dL_law__1409 : decode cL_law_ 1409 = .ok (.ifCond .ne 15, 3) := by decide +kernel
theorem dL_law__1412 : decode cL_law_ 1412 = .ok (.aload_n 3, 1) := by decide +kernel
theorem dL_law__1413 : decode cL_law_ 1413 = .ok (.iconst 0, 1) := by decide +kernel
theorem dL_law__1414 : decode cL_law_ 1414 = .ok (.laload, 1) := by decide +kernel
theorem dL_law__1415 : decode cL_law_ 1415 = .ok (.iload 6, 2) := by decide +kernel
theorem dL_law__1417 : decode cL_law_ 1417 = .ok (.i2l, 1) := by decide +kernel
theorem dL_law__1418 : decode cL_law_ 1418 = .ok (.lcmp, 1) := by decide +kernel
theorem dL_law__1419 : decode cL_law_ 1419 = .ok (.ifCond .eq 5, 3) := by decide +kernel
theorem dL_law__1422 : decode cL_law_ 1422 = .ok (.iconst 0, 1) := by decide +kernel
theorem dL_law__1423 : decode cL_law_ 1423 = .ok (.ireturn, 1) := by decide +kernel
theorem dL_law__1424 : decode cL_law_ 1424 = .ok (.goto 1309, 3) := by decide +kernel
theorem dL_law__1427 : decode cL_law_ 1427 = .ok (.aload_n 1, 1) := by decide +kernel
theorem dL_law__1428 : decode cL_law_ 1428 = .ok (.aload_n 0, 1) := by decide +kernel
theorem dL_law__1429 : decode cL_law_ 1429 = .ok (.iload 4, 2) := by decide +kernel
theorem dL_law__1431 : decode cL_law_ 1431 = .ok (.iconst 1, 1) := by decide +kernel
theorem dL_law__1432 : decode cL_law_ 1432 = .ok (.iadd, 1) := by decide +kernel
theorem dL_law__1433 : decode cL_law_ 1433 = .ok (.iaload, 1) := by decide +kernel
theorem dL_law__1434 : decode cL_law_ 1434 = .ok (.aload_n 0, 1) := by decide +kernel
theorem dL_law__1435 : decode cL_law_ 1435 = .ok (.iload 4, 2) := by decide +kernel
theorem dL_law__1437 : decode cL_law_ 1437 = .ok (.iconst 2, 1) := by decide +kernel
theorem dL_law__1438 : decode cL_law_ 1438 = .ok (.iadd, 1) := by decide +kernel
theorem dL_law__1439 : decode cL_law_ 1439 = .ok (.iaload, 1) := by decide +kernel
theorem dL_law__1440 : decode cL_law_ 1440 = .ok (.aload_n 0, 1) := by decide +kernel
theorem dL_law__1441 : decode cL_law_ 1441 = .ok (.iload 4, 2) := by decide +kernel
theorem dL_law__1443 : decode cL_law_ 1443 = .ok (.iconst 3, 1) := by decide +kernel
theorem dL_law__1444 : decode cL_law_ 1444 = .ok (.iadd, 1) := by decide +kernel
theorem dL_law__1445 : decode cL_law_ 1445 = .ok (.iaload, 1) := by decide +kernel
theorem dL_law__1446 : decode cL_law_ 1446 = .ok (.aload_n 3, 1) := by decide +kernel
theorem dL_law__1447 : decode cL_law_ 1447 = .ok (.invokestatic 197, 3) := by decide +kernel
theorem dL_law__1450 : decode cL_law_ 1450 = .ok (.istore 5, 2) := by decide +kernel
theorem dL_law__1452 : decode cL_law_ 1452 = .ok (.aload_n 2, 1) := by decide +kernel
theorem dL_law__1453 : decode cL_law_ 1453 = .ok (.aload_n 0, 1) := by decide +kernel
theorem dL_law__1454 : decode cL_law_ 1454 = .ok (.iload 4, 2) := by decide +kernel
theorem dL_law__1456 : decode cL_law_ 1456 = .ok (.iconst 1, 1) := by decide +kernel
theorem dL_law__1457 : decode cL_law_ 1457 = .ok (.iadd, 1) := by decide +kernel
theorem dL_law__1458 : decode cL_law_ 1458 = .ok (.iaload, 1) := by decide +kernel
theorem dL_law__1459 : decode cL_law_ 1459 = .ok (.aload_n 0, 1) := by decide +kernel
theorem dL_law__1460 : decode cL_law_ 1460 = .ok (.iload 4, 2) := by decide +kernel
theorem dL_law__1462 : decode cL_law_ 1462 = .ok (.iconst 2, 1) := by decide +kernel
theorem dL_law__1463 : decode cL_law_ 1463 = .ok (.iadd, 1) := by decide +kernel
theorem dL_law__1464 : decode cL_law_ 1464 = .ok (.iaload, 1) := by decide +kernel
theorem dL_law__1465 : decode cL_law_ 1465 = .ok (.aload_n 0, 1) := by decide +kernel
theorem dL_law__1466 : decode cL_law_ 1466 = .ok (.iload 4, 2) := by decide +kernel
theorem dL_law__1468 : decode cL_law_ 1468 = .ok (.iconst 3, 1) := by decide +kernel
theorem dL_law__1469 : decode cL_law_ 1469 = .ok (.iadd, 1) := by decide +kernel
theorem dL_law__1470 : decode cL_law_ 1470 = .ok (.iaload, 1) := by decide +kernel
theorem dL_law__1471 : decode cL_law_ 1471 = .ok (.invokevirtual 199, 3) := by decide +kernel
theorem dL_law__1474 : decode cL_law_ 1474 = .ok (.istore 6, 2) := by decide +kernel
theorem dL_law__1476 : decode cL_law_ 1476 = .ok (.aload_n 2, 1) := by decide +kernel
theorem dL_law__1477 : decode cL_law_ 1477 = .ok (.invokevirtual 133, 3) := by decide +kernel
theorem dL_law__1480 : decode cL_law_ 1480 = .ok (.iload 5, 2) := by decide +kernel
theorem dL_law__1482 : decode cL_law_ 1482 = .ok (.if_icmp .eq 5, 3) := by decide +kernel
theorem dL_law__1485 : decode cL_law_ 1485 = .ok (.iconst 0, 1) := by decide +kernel
theorem dL_law__1486 : decode cL_law_ 1486 = .ok (.ireturn, 1) := by decide +kernel
theorem dL_law__1487 : decode cL_law_ 1487 = .ok (.iload 5, 2) := by decide +kernel
theorem dL_law__1489 : decode cL_law_ 1489 = .ok (.ifCond .ne 15, 3) := by decide +kernel
theorem dL_law__1492 : decode cL_law_ 1492 = .ok (.aload_n 3, 1) := by decide +kernel
theorem dL_law__1493 : decode cL_law_ 1493 = .ok (.iconst 0, 1) := by decide +kernel
theorem dL_law__1494 : decode cL_law_ 1494 = .ok (.laload, 1) := by decide +kernel
theorem dL_law__1495 : decode cL_law_ 1495 = .ok (.iload 6, 2) := by decide +kernel
theorem dL_law__1497 : decode cL_law_ 1497 = .ok (.i2l, 1) := by decide +kernel
theorem dL_law__1498 : decode cL_law_ 1498 = .ok (.lcmp, 1) := by decide +kernel
theorem dL_law__1499 : decode cL_law_ 1499 = .ok (.ifCond .eq 5, 3) := by decide +kernel
theorem dL_law__1502 : decode cL_law_ 1502 = .ok (.iconst 0, 1) := by decide +kernel
theorem dL_law__1503 : decode cL_law_ 1503 = .ok (.ireturn, 1) := by decide +kernel
theorem dL_law__1504 : decode cL_law_ 1504 = .ok (.goto 1229, 3) := by decide +kernel
theorem dL_law__1507 : decode cL_law_ 1507 = .ok (.aload_n 1, 1) := by decide +kernel
theorem dL_law__1508 : decode cL_law_ 1508 = .ok (.aload_n 0, 1) := by decide +kernel
theorem dL_law__1509 : decode cL_law_ 1509 = .ok (.iload 4, 2) := by decide +kernel
theorem dL_law__1511 : decode cL_law_ 1511 = .ok (.iconst 1, 1) := by decide +kernel
theorem dL_law__1512 : decode cL_law_ 1512 = .ok (.iadd, 1) := by decide +kernel
theorem dL_law__1513 : decode cL_law_ 1513 = .ok (.iaload, 1) := by decide +kernel
theorem dL_law__1514 : decode cL_law_ 1514 = .ok (.aload_n 3, 1) := by decide +kernel
theorem dL_law__1515 : decode cL_law_ 1515 = .ok (.invokestatic 200, 3) := by decide +kernel
theorem dL_law__1518 : decode cL_law_ 1518 = .ok (.istore 5, 2) := by decide +kernel
theorem dL_law__1520 : decode cL_law_ 1520 = .ok (.aload_n 2, 1) := by decide +kernel
theorem dL_law__1521 : decode cL_law_ 1521 = .ok (.aload_n 0, 1) := by decide +kernel
theorem dL_law__1522 : decode cL_law_ 1522 = .ok (.iload 4, 2) := by decide +kernel
theorem dL_law__1524 : decode cL_law_ 1524 = .ok (.iconst 1, 1) := by decide +kernel
theorem dL_law__1525 : decode cL_law_ 1525 = .ok (.iadd, 1) := by decide +kernel
theorem dL_law__1526 : decode cL_law_ 1526 = .ok (.iaload, 1) := by decide +kernel
theorem dL_law__1527 : decode cL_law_ 1527 = .ok (.invokevirtual 202, 3) := by decide +kernel
theorem dL_law__1530 : decode cL_law_ 1530 = .ok (.istore 6, 2) := by decide +kernel
theorem dL_law__1532 : decode cL_law_ 1532 = .ok (.aload_n 2, 1) := by decide +kernel
theorem dL_law__1533 : decode cL_law_ 1533 = .ok (.invokevirtual 133, 3) := by decide +kernel
theorem dL_law__1536 : decode cL_law_ 1536 = .ok (.iload 5, 2) := by decide +kernel
theorem dL_law__1538 : decode cL_law_ 1538 = .ok (.if_icmp .eq 5, 3) := by decide +kernel
theorem dL_law__1541 : decode cL_law_ 1541 = .ok (.iconst 0, 1) := by decide +kernel
theorem dL_law__1542 : decode cL_law_ 1542 = .ok (.ireturn, 1) := by decide +kernel
theorem dL_law__1543 : decode cL_law_ 1543 = .ok (.iload 5, 2) := by decide +kernel
theorem dL_law__1545 : decode cL_law_ 1545 = .ok (.ifCond .ne 15, 3) := by decide +kernel
theorem dL_law__1548 : decode cL_law_ 1548 = .ok (.aload_n 3, 1) := by decide +kernel
theorem dL_law__1549 : decode cL_law_ 1549 = .ok (.iconst 0, 1) := by decide +kernel
theorem dL_law__1550 : decode cL_law_ 1550 = .ok (.laload, 1) := by decide +kernel
theorem dL_law__1551 : decode cL_law_ 1551 = .ok (.iload 6, 2) := by decide +kernel
theorem dL_law__1553 : decode cL_law_ 1553 = .ok (.i2l, 1) := by decide +kernel
theorem dL_law__1554 : decode cL_law_ 1554 = .ok (.lcmp, 1) := by decide +kernel
theorem dL_law__1555 : decode cL_law_ 1555 = .ok (.ifCond .eq 5, 3) := by decide +kernel
theorem dL_law__1558 : decode cL_law_ 1558 = .ok (.iconst 0, 1) := by decide +kernel
theorem dL_law__1559 : decode cL_law_ 1559 = .ok (.ireturn, 1) := by decide +kernel
theorem dL_law__1560 : decode cL_law_ 1560 = .ok (.goto 1173, 3) := by decide +kernel
theorem dL_law__1563 : decode cL_law_ 1563 = .ok (.aload_n 1, 1) := by decide +kernel
theorem dL_law__1564 : decode cL_law_ 1564 = .ok (.aload_n 0, 1) := by decide +kernel
theorem dL_law__1565 : decode cL_law_ 1565 = .ok (.iload 4, 2) := by decide +kernel
theorem dL_law__1567 : decode cL_law_ 1567 = .ok (.iconst 1, 1) := by decide +kernel
theorem dL_law__1568 : decode cL_law_ 1568 = .ok (.iadd, 1) := by decide +kernel
theorem dL_law__1569 : decode cL_law_ 1569 = .ok (.iaload, 1) := by decide +kernel
theorem dL_law__1570 : decode cL_law_ 1570 = .ok (.aload_n 3, 1) := by decide +kernel
theorem dL_law__1571 : decode cL_law_ 1571 = .ok (.invokestatic 203, 3) := by decide +kernel
theorem dL_law__1574 : decode cL_law_ 1574 = .ok (.istore 5, 2) := by decide +kernel
theorem dL_law__1576 : decode cL_law_ 1576 = .ok (.aload_n 2, 1) := by decide +kernel
theorem dL_law__1577 : decode cL_law_ 1577 = .ok (.aload_n 0, 1) := by decide +kernel
theorem dL_law__1578 : decode cL_law_ 1578 = .ok (.iload 4, 2) := by decide +kernel
theorem dL_law__1580 : decode cL_law_ 1580 = .ok (.iconst 1, 1) := by decide +kernel
theorem dL_law__1581 : decode cL_law_ 1581 = .ok (.iadd, 1) := by decide +kernel
theorem dL_law__1582 : decode cL_law_ 1582 = .ok (.iaload, 1) := by decide +kernel
theorem dL_law__1583 : decode cL_law_ 1583 = .ok (.invokevirtual 205, 3) := by decide +kernel
theorem dL_law__1586 : decode cL_law_ 1586 = .ok (.istore 6, 2) := by decide +kernel
theorem dL_law__1588 : decode cL_law_ 1588 = .ok (.aload_n 2, 1) := by decide +kernel
theorem dL_law__1589 : decode cL_law_ 1589 = .ok (.invokevirtual 133, 3) := by decide +kernel
theorem dL_law__1592 : decode cL_law_ 1592 = .ok (.iload 5, 2) := by decide +kernel
theorem dL_law__1594 : decode cL_law_ 1594 = .ok (.if_icmp .eq 5, 3) := by decide +kernel
theorem dL_law__1597 : decode cL_law_ 1597 = .ok (.iconst 0, 1) := by decide +kernel
theorem dL_law__1598 : decode cL_law_ 1598 = .ok (.ireturn, 1) := by decide +kernel
theorem dL_law__1599 : decode cL_law_ 1599 = .ok (.iload 5, 2) := by decide +kernel
theorem dL_law__1601 : decode cL_law_ 1601 = .ok (.ifCond .ne 15, 3) := by decide +kernel
theorem dL_law__1604 : decode cL_law_ 1604 = .ok (.aload_n 3, 1) := by decide +kernel
theorem dL_law__1605 : decode cL_law_ 1605 = .ok (.iconst 0, 1) := by decide +kernel
theorem dL_law__1606 : decode cL_law_ 1606 = .ok (.laload, 1) := by decide +kernel
theorem dL_law__1607 : decode cL_law_ 1607 = .ok (.iload 6, 2) := by decide +kernel
theorem dL_law__1609 : decode cL_law_ 1609 = .ok (.i2l, 1) := by decide +kernel
theorem dL_law__1610 : decode cL_law_ 1610 = .ok (.lcmp, 1) := by decide +kernel
theorem dL_law__1611 : decode cL_law_ 1611 = .ok (.ifCond .eq 5, 3) := by decide +kernel
theorem dL_law__1614 : decode cL_law_ 1614 = .ok (.iconst 0, 1) := by decide +kernel
theorem dL_law__1615 : decode cL_law_ 1615 = .ok (.ireturn, 1) := by decide +kernel
theorem dL_law__1616 : decode cL_law_ 1616 = .ok (.goto 1117, 3) := by decide +kernel
theorem dL_law__1619 : decode cL_law_ 1619 = .ok (.aload_n 1, 1) := by decide +kernel
theorem dL_law__1620 : decode cL_law_ 1620 = .ok (.aload_n 0, 1) := by decide +kernel
theorem dL_law__1621 : decode cL_law_ 1621 = .ok (.iload 4, 2) := by decide +kernel
theorem dL_law__1623 : decode cL_law_ 1623 = .ok (.iconst 1, 1) := by decide +kernel
theorem dL_law__1624 : decode cL_law_ 1624 = .ok (.iadd, 1) := by decide +kernel
theorem dL_law__1625 : decode cL_law_ 1625 = .ok (.iaload, 1) := by decide +kernel
theorem dL_law__1626 : decode cL_law_ 1626 = .ok (.aload_n 0, 1) := by decide +kernel
theorem dL_law__1627 : decode cL_law_ 1627 = .ok (.iload 4, 2) := by decide +kernel
theorem dL_law__1629 : decode cL_law_ 1629 = .ok (.iconst 2, 1) := by decide +kernel
theorem dL_law__1630 : decode cL_law_ 1630 = .ok (.iadd, 1) := by decide +kernel
theorem dL_law__1631 : decode cL_law_ 1631 = .ok (.iaload, 1) := by decide +kernel
theorem dL_law__1632 : decode cL_law_ 1632 = .ok (.aload_n 3, 1) := by decide +kernel
theorem dL_law__1633 : decode cL_law_ 1633 = .ok (.invokestatic 206, 3) := by decide +kernel
theorem dL_law__1636 : decode cL_law_ 1636 = .ok (.istore 5, 2) := by decide +kernel
theorem dL_law__1638 : decode cL_law_ 1638 = .ok (.aload_n 2, 1) := by decide +kernel
theorem dL_law__1639 : decode cL_law_ 1639 = .ok (.aload_n 0, 1) := by decide +kernel
theorem dL_law__1640 : decode cL_law_ 1640 = .ok (.iload 4, 2) := by decide +kernel
theorem dL_law__1642 : decode cL_law_ 1642 = .ok (.iconst 1, 1) := by decide +kernel
theorem dL_law__1643 : decode cL_law_ 1643 = .ok (.iadd, 1) := by decide +kernel
theorem dL_law__1644 : decode cL_law_ 1644 = .ok (.iaload, 1) := by decide +kernel
theorem dL_law__1645 : decode cL_law_ 1645 = .ok (.aload_n 0, 1) := by decide +kernel
theorem dL_law__1646 : decode cL_law_ 1646 = .ok (.iload 4, 2) := by decide +kernel
theorem dL_law__1648 : decode cL_law_ 1648 = .ok (.iconst 2, 1) := by decide +kernel
theorem dL_law__1649 : decode cL_law_ 1649 = .ok (.iadd, 1) := by decide +kernel
theorem dL_law__1650 : decode cL_law_ 1650 = .ok (.iaload, 1) := by decide +kernel
theorem dL_law__1651 : decode cL_law_ 1651 = .ok (.invokevirtual 208, 3) := by decide +kernel
theorem dL_law__1654 : decode cL_law_ 1654 = .ok (.istore 6, 2) := by decide +kernel
theorem dL_law__1656 : decode cL_law_ 1656 = .ok (.aload_n 2, 1) := by decide +kernel
theorem dL_law__1657 : decode cL_law_ 1657 = .ok (.invokevirtual 133, 3) := by decide +kernel
theorem dL_law__1660 : decode cL_law_ 1660 = .ok (.iload 5, 2) := by decide +kernel
theorem dL_law__1662 : decode cL_law_ 1662 = .ok (.if_icmp .eq 5, 3) := by decide +kernel
theorem dL_law__1665 : decode cL_law_ 1665 = .ok (.iconst 0, 1) := by decide +kernel
theorem dL_law__1666 : decode cL_law_ 1666 = .ok (.ireturn, 1) := by decide +kernel
theorem dL_law__1667 : decode cL_law_ 1667 = .ok (.iload 5, 2) := by decide +kernel
theorem dL_law__1669 : decode cL_law_ 1669 = .ok (.ifCond .ne 15, 3) := by decide +kernel
theorem dL_law__1672 : decode cL_law_ 1672 = .ok (.aload_n 3, 1) := by decide +kernel
theorem dL_law__1673 : decode cL_law_ 1673 = .ok (.iconst 0, 1) := by decide +kernel
theorem dL_law__1674 : decode cL_law_ 1674 = .ok (.laload, 1) := by decide +kernel
theorem dL_law__1675 : decode cL_law_ 1675 = .ok (.iload 6, 2) := by decide +kernel
theorem dL_law__1677 : decode cL_law_ 1677 = .ok (.i2l, 1) := by decide +kernel
theorem dL_law__1678 : decode cL_law_ 1678 = .ok (.lcmp, 1) := by decide +kernel
theorem dL_law__1679 : decode cL_law_ 1679 = .ok (.ifCond .eq 5, 3) := by decide +kernel
theorem dL_law__1682 : decode cL_law_ 1682 = .ok (.iconst 0, 1) := by decide +kernel
theorem dL_law__1683 : decode cL_law_ 1683 = .ok (.ireturn, 1) := by decide +kernel
theorem dL_law__1684 : decode cL_law_ 1684 = .ok (.goto 1049, 3) := by decide +kernel
theorem dL_law__1687 : decode cL_law_ 1687 = .ok (.aload_n 1, 1) := by decide +kernel
theorem dL_law__1688 : decode cL_law_ 1688 = .ok (.aload_n 0, 1) := by decide +kernel
theorem dL_law__1689 : decode cL_law_ 1689 = .ok (.iload 4, 2) := by decide +kernel
theorem dL_law__1691 : decode cL_law_ 1691 = .ok (.iconst 1, 1) := by decide +kernel
theorem dL_law__1692 : decode cL_law_ 1692 = .ok (.iadd, 1) := by decide +kernel
theorem dL_law__1693 : decode cL_law_ 1693 = .ok (.iaload, 1) := by decide +kernel
theorem dL_law__1694 : decode cL_law_ 1694 = .ok (.aload_n 0, 1) := by decide +kernel
theorem dL_law__1695 : decode cL_law_ 1695 = .ok (.iload 4, 2) := by decide +kernel
theorem dL_law__1697 : decode cL_law_ 1697 = .ok (.iconst 2, 1) := by decide +kernel
theorem dL_law__1698 : decode cL_law_ 1698 = .ok (.iadd, 1) := by decide +kernel
theorem dL_law__1699 : decode cL_law_ 1699 = .ok (.iaload, 1) := by decide +kernel
theorem dL_law__1700 : decode cL_law_ 1700 = .ok (.aload_n 3, 1) := by decide +kernel
theorem dL_law__1701 : decode cL_law_ 1701 = .ok (.invokestatic 209, 3) := by decide +kernel
theorem dL_law__1704 : decode cL_law_ 1704 = .ok (.istore 5, 2) := by decide +kernel
theorem dL_law__1706 : decode cL_law_ 1706 = .ok (.aload_n 2, 1) := by decide +kernel
theorem dL_law__1707 : decode cL_law_ 1707 = .ok (.aload_n 0, 1) := by decide +kernel
theorem dL_law__1708 : decode cL_law_ 1708 = .ok (.iload 4, 2) := by decide +kernel
theorem dL_law__1710 : decode cL_law_ 1710 = .ok (.iconst 1, 1) := by decide +kernel
theorem dL_law__1711 : decode cL_law_ 1711 = .ok (.iadd, 1) := by decide +kernel
theorem dL_law__1712 : decode cL_law_ 1712 = .ok (.iaload, 1) := by decide +kernel
theorem dL_law__1713 : decode cL_law_ 1713 = .ok (.aload_n 0, 1) := by decide +kernel
theorem dL_law__1714 : decode cL_law_ 1714 = .ok (.iload 4, 2) := by decide +kernel
theorem dL_law__1716 : decode cL_law_ 1716 = .ok (.iconst 2, 1) := by decide +kernel
theorem dL_law__1717 : decode cL_law_ 1717 = .ok (.iadd, 1) := by decide +kernel
theorem dL_law__1718 : decode cL_law_ 1718 = .ok (.iaload, 1) := by decide +kernel
theorem dL_law__1719 : decode cL_law_ 1719 = .ok (.invokevirtual 211, 3) := by decide +kernel
theorem dL_law__1722 : decode cL_law_ 1722 = .ok (.istore 6, 2) := by decide +kernel
theorem dL_law__1724 : decode cL_law_ 1724 = .ok (.aload_n 2, 1) := by decide +kernel
theorem dL_law__1725 : decode cL_law_ 1725 = .ok (.invokevirtual 133, 3) := by decide +kernel
theorem dL_law__1728 : decode cL_law_ 1728 = .ok (.iload 5, 2) := by decide +kernel
theorem dL_law__1730 : decode cL_law_ 1730 = .ok (.if_icmp .eq 5, 3) := by decide +kernel
theorem dL_law__1733 : decode cL_law_ 1733 = .ok (.iconst 0, 1) := by decide +kernel
theorem dL_law__1734 : decode cL_law_ 1734 = .ok (.ireturn, 1) := by decide +kernel
theorem dL_law__1735 : decode cL_law_ 1735 = .ok (.iload 5, 2) := by decide +kernel
theorem dL_law__1737 : decode cL_law_ 1737 = .ok (.ifCond .ne 15, 3) := by decide +kernel
theorem dL_law__1740 : decode cL_law_ 1740 = .ok (.aload_n 3, 1) := by decide +kernel
theorem dL_law__1741 : decode cL_law_ 1741 = .ok (.iconst 0, 1) := by decide +kernel
theorem dL_law__1742 : decode cL_law_ 1742 = .ok (.laload, 1) := by decide +kernel
theorem dL_law__1743 : decode cL_law_ 1743 = .ok (.iload 6, 2) := by decide +kernel
theorem dL_law__1745 : decode cL_law_ 1745 = .ok (.i2l, 1) := by decide +kernel
theorem dL_law__1746 : decode cL_law_ 1746 = .ok (.lcmp, 1) := by decide +kernel
theorem dL_law__1747 : decode cL_law_ 1747 = .ok (.ifCond .eq 5, 3) := by decide +kernel
theorem dL_law__1750 : decode cL_law_ 1750 = .ok (.iconst 0, 1) := by decide +kernel
theorem dL_law__1751 : decode cL_law_ 1751 = .ok (.ireturn, 1) := by decide +kernel
theorem dL_law__1752 : decode cL_law_ 1752 = .ok (.goto 981, 3) := by decide +kernel
theorem dL_law__1755 : decode cL_law_ 1755 = .ok (.aload_n 1, 1) := by decide +kernel
theorem dL_law__1756 : decode cL_law_ 1756 = .ok (.invokevirtual 212, 3) := by decide +kernel
theorem dL_law__1759 : decode cL_law_ 1759 = .ok (.aload_n 2, 1) := by decide +kernel
theorem dL_law__1760 : decode cL_law_ 1760 = .ok (.invokevirtual 215, 3) := by decide +kernel
theorem dL_law__1763 : decode cL_law_ 1763 = .ok (.if_icmp .eq 970, 3) := by decide +kernel
theorem dL_law__1766 : decode cL_law_ 1766 = .ok (.iconst 0, 1) := by decide +kernel
theorem dL_law__1767 : decode cL_law_ 1767 = .ok (.ireturn, 1) := by decide +kernel
theorem dL_law__1768 : decode cL_law_ 1768 = .ok (.aload_n 1, 1) := by decide +kernel
theorem dL_law__1769 : decode cL_law_ 1769 = .ok (.aload_n 0, 1) := by decide +kernel
theorem dL_law__1770 : decode cL_law_ 1770 = .ok (.iload 4, 2) := by decide +kernel
theorem dL_law__1772 : decode cL_law_ 1772 = .ok (.iconst 1, 1) := by decide +kernel
theorem dL_law__1773 : decode cL_law_ 1773 = .ok (.iadd, 1) := by decide +kernel
theorem dL_law__1774 : decode cL_law_ 1774 = .ok (.iaload, 1) := by decide +kernel
theorem dL_law__1775 : decode cL_law_ 1775 = .ok (.aload_n 0, 1) := by decide +kernel
theorem dL_law__1776 : decode cL_law_ 1776 = .ok (.iload 4, 2) := by decide +kernel
theorem dL_law__1778 : decode cL_law_ 1778 = .ok (.iconst 2, 1) := by decide +kernel
theorem dL_law__1779 : decode cL_law_ 1779 = .ok (.iadd, 1) := by decide +kernel
theorem dL_law__1780 : decode cL_law_ 1780 = .ok (.iaload, 1) := by decide +kernel
theorem dL_law__1781 : decode cL_law_ 1781 = .ok (.aload_n 3, 1) := by decide +kernel
theorem dL_law__1782 : decode cL_law_ 1782 = .ok (.invokestatic 216, 3) := by decide +kernel
theorem dL_law__1785 : decode cL_law_ 1785 = .ok (.istore 5, 2) := by decide +kernel
theorem dL_law__1787 : decode cL_law_ 1787 = .ok (.aload_n 2, 1) := by decide +kernel
theorem dL_law__1788 : decode cL_law_ 1788 = .ok (.aload_n 0, 1) := by decide +kernel
theorem dL_law__1789 : decode cL_law_ 1789 = .ok (.iload 4, 2) := by decide +kernel
theorem dL_law__1791 : decode cL_law_ 1791 = .ok (.iconst 1, 1) := by decide +kernel
theorem dL_law__1792 : decode cL_law_ 1792 = .ok (.iadd, 1) := by decide +kernel
theorem dL_law__1793 : decode cL_law_ 1793 = .ok (.iaload, 1) := by decide +kernel
theorem dL_law__1794 : decode cL_law_ 1794 = .ok (.aload_n 0, 1) := by decide +kernel
theorem dL_law__1795 : decode cL_law_ 1795 = .ok (.iload 4, 2) := by decide +kernel
theorem dL_law__1797 : decode cL_law_ 1797 = .ok (.iconst 2, 1) := by decide +kernel
theorem dL_law__1798 : decode cL_law_ 1798 = .ok (.iadd, 1) := by decide +kernel
theorem dL_law__1799 : decode cL_law_ 1799 = .ok (.iaload, 1) := by decide +kernel
theorem dL_law__1800 : decode cL_law_ 1800 = .ok (.invokevirtual 218, 3) := by decide +kernel
theorem dL_law__1803 : decode cL_law_ 1803 = .ok (.istore 6, 2) := by decide +kernel
theorem dL_law__1805 : decode cL_law_ 1805 = .ok (.aload_n 2, 1) := by decide +kernel
theorem dL_law__1806 : decode cL_law_ 1806 = .ok (.invokevirtual 133, 3) := by decide +kernel
theorem dL_law__1809 : decode cL_law_ 1809 = .ok (.iload 5, 2) := by decide +kernel
theorem dL_law__1811 : decode cL_law_ 1811 = .ok (.if_icmp .eq 5, 3) := by decide +kernel
theorem dL_law__1814 : decode cL_law_ 1814 = .ok (.iconst 0, 1) := by decide +kernel
theorem dL_law__1815 : decode cL_law_ 1815 = .ok (.ireturn, 1) := by decide +kernel
theorem dL_law__1816 : decode cL_law_ 1816 = .ok (.iload 5, 2) := by decide +kernel
theorem dL_law__1818 : decode cL_law_ 1818 = .ok (.ifCond .ne 15, 3) := by decide +kernel
theorem dL_law__1821 : decode cL_law_ 1821 = .ok (.aload_n 3, 1) := by decide +kernel
theorem dL_law__1822 : decode cL_law_ 1822 = .ok (.iconst 0, 1) := by decide +kernel
theorem dL_law__1823 : decode cL_law_ 1823 = .ok (.laload, 1) := by decide +kernel
theorem dL_law__1824 : decode cL_law_ 1824 = .ok (.iload 6, 2) := by decide +kernel
theorem dL_law__1826 : decode cL_law_ 1826 = .ok (.i2l, 1) := by decide +kernel
theorem dL_law__1827 : decode cL_law_ 1827 = .ok (.lcmp, 1) := by decide +kernel
theorem dL_law__1828 : decode cL_law_ 1828 = .ok (.ifCond .eq 5, 3) := by decide +kernel
theorem dL_law__1831 : decode cL_law_ 1831 = .ok (.iconst 0, 1) := by decide +kernel
theorem dL_law__1832 : decode cL_law_ 1832 = .ok (.ireturn, 1) := by decide +kernel
theorem dL_law__1833 : decode cL_law_ 1833 = .ok (.goto 900, 3) := by decide +kernel
theorem dL_law__1836 : decode cL_law_ 1836 = .ok (.aload_n 1, 1) := by decide +kernel
theorem dL_law__1837 : decode cL_law_ 1837 = .ok (.aload_n 0, 1) := by decide +kernel
theorem dL_law__1838 : decode cL_law_ 1838 = .ok (.iload 4, 2) := by decide +kernel
theorem dL_law__1840 : decode cL_law_ 1840 = .ok (.iconst 1, 1) := by decide +kernel
theorem dL_law__1841 : decode cL_law_ 1841 = .ok (.iadd, 1) := by decide +kernel
theorem dL_law__1842 : decode cL_law_ 1842 = .ok (.iaload, 1) := by decide +kernel
theorem dL_law__1843 : decode cL_law_ 1843 = .ok (.aload_n 3, 1) := by decide +kernel
theorem dL_law__1844 : decode cL_law_ 1844 = .ok (.invokestatic 219, 3) := by decide +kernel
theorem dL_law__1847 : decode cL_law_ 1847 = .ok (.istore 5, 2) := by decide +kernel
theorem dL_law__1849 : decode cL_law_ 1849 = .ok (.aload_n 2, 1) := by decide +kernel
theorem dL_law__1850 : decode cL_law_ 1850 = .ok (.aload_n 0, 1) := by decide +kernel
theorem dL_law__1851 : decode cL_law_ 1851 = .ok (.iload 4, 2) := by decide +kernel
theorem dL_law__1853 : decode cL_law_ 1853 = .ok (.iconst 1, 1) := by decide +kernel
theorem dL_law__1854 : decode cL_law_ 1854 = .ok (.iadd, 1) := by decide +kernel
theorem dL_law__1855 : decode cL_law_ 1855 = .ok (.iaload, 1) := by decide +kernel
theorem dL_law__1856 : decode cL_law_ 1856 = .ok (.invokevirtual 221, 3) := by decide +kernel
theorem dL_law__1859 : decode cL_law_ 1859 = .ok (.istore 6, 2) := by decide +kernel
theorem dL_law__1861 : decode cL_law_ 1861 = .ok (.aload_n 2, 1) := by decide +kernel
theorem dL_law__1862 : decode cL_law_ 1862 = .ok (.invokevirtual 133, 3) := by decide +kernel
theorem dL_law__1865 : decode cL_law_ 1865 = .ok (.iload 5, 2) := by decide +kernel
theorem dL_law__1867 : decode cL_law_ 1867 = .ok (.if_icmp .eq 5, 3) := by decide +kernel
theorem dL_law__1870 : decode cL_law_ 1870 = .ok (.iconst 0, 1) := by decide +kernel
theorem dL_law__1871 : decode cL_law_ 1871 = .ok (.ireturn, 1) := by decide +kernel
theorem dL_law__1872 : decode cL_law_ 1872 = .ok (.iload 5, 2) := by decide +kernel
theorem dL_law__1874 : decode cL_law_ 1874 = .ok (.ifCond .ne 15, 3) := by decide +kernel
theorem dL_law__1877 : decode cL_law_ 1877 = .ok (.aload_n 3, 1) := by decide +kernel
theorem dL_law__1878 : decode cL_law_ 1878 = .ok (.iconst 0, 1) := by decide +kernel
theorem dL_law__1879 : decode cL_law_ 1879 = .ok (.laload, 1) := by decide +kernel
theorem dL_law__1880 : decode cL_law_ 1880 = .ok (.iload 6, 2) := by decide +kernel
theorem dL_law__1882 : decode cL_law_ 1882 = .ok (.i2l, 1) := by decide +kernel
theorem dL_law__1883 : decode cL_law_ 1883 = .ok (.lcmp, 1) := by decide +kernel
theorem dL_law__1884 : decode cL_law_ 1884 = .ok (.ifCond .eq 5, 3) := by decide +kernel
theorem dL_law__1887 : decode cL_law_ 1887 = .ok (.iconst 0, 1) := by decide +kernel
theorem dL_law__1888 : decode cL_law_ 1888 = .ok (.ireturn, 1) := by decide +kernel
theorem dL_law__1889 : decode cL_law_ 1889 = .ok (.goto 844, 3) := by decide +kernel
theorem dL_law__1892 : decode cL_law_ 1892 = .ok (.aload_n 1, 1) := by decide +kernel
theorem dL_law__1893 : decode cL_law_ 1893 = .ok (.aload_n 0, 1) := by decide +kernel
theorem dL_law__1894 : decode cL_law_ 1894 = .ok (.iload 4, 2) := by decide +kernel
theorem dL_law__1896 : decode cL_law_ 1896 = .ok (.iconst 1, 1) := by decide +kernel
theorem dL_law__1897 : decode cL_law_ 1897 = .ok (.iadd, 1) := by decide +kernel
theorem dL_law__1898 : decode cL_law_ 1898 = .ok (.iaload, 1) := by decide +kernel
theorem dL_law__1899 : decode cL_law_ 1899 = .ok (.aload_n 0, 1) := by decide +kernel
theorem dL_law__1900 : decode cL_law_ 1900 = .ok (.iload 4, 2) := by decide +kernel
theorem dL_law__1902 : decode cL_law_ 1902 = .ok (.iconst 2, 1) := by decide +kernel
theorem dL_law__1903 : decode cL_law_ 1903 = .ok (.iadd, 1) := by decide +kernel
theorem dL_law__1904 : decode cL_law_ 1904 = .ok (.iaload, 1) := by decide +kernel
theorem dL_law__1905 : decode cL_law_ 1905 = .ok (.aload_n 3, 1) := by decide +kernel
theorem dL_law__1906 : decode cL_law_ 1906 = .ok (.invokestatic 222, 3) := by decide +kernel
theorem dL_law__1909 : decode cL_law_ 1909 = .ok (.istore 5, 2) := by decide +kernel
theorem dL_law__1911 : decode cL_law_ 1911 = .ok (.aload_n 2, 1) := by decide +kernel
theorem dL_law__1912 : decode cL_law_ 1912 = .ok (.aload_n 0, 1) := by decide +kernel
theorem dL_law__1913 : decode cL_law_ 1913 = .ok (.iload 4, 2) := by decide +kernel
theorem dL_law__1915 : decode cL_law_ 1915 = .ok (.iconst 1, 1) := by decide +kernel
theorem dL_law__1916 : decode cL_law_ 1916 = .ok (.iadd, 1) := by decide +kernel
theorem dL_law__1917 : decode cL_law_ 1917 = .ok (.iaload, 1) := by decide +kernel
theorem dL_law__1918 : decode cL_law_ 1918 = .ok (.aload_n 0, 1) := by decide +kernel
theorem dL_law__1919 : decode cL_law_ 1919 = .ok (.iload 4, 2) := by decide +kernel
theorem dL_law__1921 : decode cL_law_ 1921 = .ok (.iconst 2, 1) := by decide +kernel
theorem dL_law__1922 : decode cL_law_ 1922 = .ok (.iadd, 1) := by decide +kernel
theorem dL_law__1923 : decode cL_law_ 1923 = .ok (.iaload, 1) := by decide +kernel
theorem dL_law__1924 : decode cL_law_ 1924 = .ok (.invokevirtual 224, 3) := by decide +kernel
theorem dL_law__1927 : decode cL_law_ 1927 = .ok (.istore 6, 2) := by decide +kernel
theorem dL_law__1929 : decode cL_law_ 1929 = .ok (.aload_n 2, 1) := by decide +kernel
theorem dL_law__1930 : decode cL_law_ 1930 = .ok (.invokevirtual 133, 3) := by decide +kernel
theorem dL_law__1933 : decode cL_law_ 1933 = .ok (.iload 5, 2) := by decide +kernel
theorem dL_law__1935 : decode cL_law_ 1935 = .ok (.if_icmp .eq 5, 3) := by decide +kernel
theorem dL_law__1938 : decode cL_law_ 1938 = .ok (.iconst 0, 1) := by decide +kernel
theorem dL_law__1939 : decode cL_law_ 1939 = .ok (.ireturn, 1) := by decide +kernel
theorem dL_law__1940 : decode cL_law_ 1940 = .ok (.iload 5, 2) := by decide +kernel
theorem dL_law__1942 : decode cL_law_ 1942 = .ok (.ifCond .ne 15, 3) := by decide +kernel
theorem dL_law__1945 : decode cL_law_ 1945 = .ok (.aload_n 3, 1) := by decide +kernel
theorem dL_law__1946 : decode cL_law_ 1946 = .ok (.iconst 0, 1) := by decide +kernel
theorem dL_law__1947 : decode cL_law_ 1947 = .ok (.laload, 1) := by decide +kernel
theorem dL_law__1948 : decode cL_law_ 1948 = .ok (.iload 6, 2) := by decide +kernel
theorem dL_law__1950 : decode cL_law_ 1950 = .ok (.i2l, 1) := by decide +kernel
theorem dL_law__1951 : decode cL_law_ 1951 = .ok (.lcmp, 1) := by decide +kernel
theorem dL_law__1952 : decode cL_law_ 1952 = .ok (.ifCond .eq 5, 3) := by decide +kernel
theorem dL_law__1955 : decode cL_law_ 1955 = .ok (.iconst 0, 1) := by decide +kernel
theorem dL_law__1956 : decode cL_law_ 1956 = .ok (.ireturn, 1) := by decide +kernel
theorem dL_law__1957 : decode cL_law_ 1957 = .ok (.goto 776, 3) := by decide +kernel
theorem dL_law__1960 : decode cL_law_ 1960 = .ok (.aload_n 1, 1) := by decide +kernel
theorem dL_law__1961 : decode cL_law_ 1961 = .ok (.aload_n 0, 1) := by decide +kernel
theorem dL_law__1962 : decode cL_law_ 1962 = .ok (.iload 4, 2) := by decide +kernel
theorem dL_law__1964 : decode cL_law_ 1964 = .ok (.iconst 1, 1) := by decide +kernel
theorem dL_law__1965 : decode cL_law_ 1965 = .ok (.iadd, 1) := by decide +kernel
theorem dL_law__1966 : decode cL_law_ 1966 = .ok (.iaload, 1) := by decide +kernel
theorem dL_law__1967 : decode cL_law_ 1967 = .ok (.aload_n 0, 1) := by decide +kernel
theorem dL_law__1968 : decode cL_law_ 1968 = .ok (.iload 4, 2) := by decide +kernel
theorem dL_law__1970 : decode cL_law_ 1970 = .ok (.iconst 2, 1) := by decide +kernel
theorem dL_law__1971 : decode cL_law_ 1971 = .ok (.iadd, 1) := by decide +kernel
theorem dL_law__1972 : decode cL_law_ 1972 = .ok (.iaload, 1) := by decide +kernel
theorem dL_law__1973 : decode cL_law_ 1973 = .ok (.aload_n 0, 1) := by decide +kernel
theorem dL_law__1974 : decode cL_law_ 1974 = .ok (.iload 4, 2) := by decide +kernel
theorem dL_law__1976 : decode cL_law_ 1976 = .ok (.iconst 3, 1) := by decide +kernel
theorem dL_law__1977 : decode cL_law_ 1977 = .ok (.iadd, 1) := by decide +kernel
theorem dL_law__1978 : decode cL_law_ 1978 = .ok (.iaload, 1) := by decide +kernel
theorem dL_law__1979 : decode cL_law_ 1979 = .ok (.aload_n 0, 1) := by decide +kernel
theorem dL_law__1980 : decode cL_law_ 1980 = .ok (.iload 4, 2) := by decide +kernel
theorem dL_law__1982 : decode cL_law_ 1982 = .ok (.iconst 4, 1) := by decide +kernel
theorem dL_law__1983 : decode cL_law_ 1983 = .ok (.iadd, 1) := by decide +kernel
theorem dL_law__1984 : decode cL_law_ 1984 = .ok (.iaload, 1) := by decide +kernel
theorem dL_law__1985 : decode cL_law_ 1985 = .ok (.aload_n 3, 1) := by decide +kernel
theorem dL_law__1986 : decode cL_law_ 1986 = .ok (.invokestatic 225, 3) := by decide +kernel
theorem dL_law__1989 : decode cL_law_ 1989 = .ok (.istore 5, 2) := by decide +kernel
theorem dL_law__1991 : decode cL_law_ 1991 = .ok (.aload_n 2, 1) := by decide +kernel
theorem dL_law__1992 : decode cL_law_ 1992 = .ok (.aload_n 0, 1) := by decide +kernel
theorem dL_law__1993 : decode cL_law_ 1993 = .ok (.iload 4, 2) := by decide +kernel
theorem dL_law__1995 : decode cL_law_ 1995 = .ok (.iconst 1, 1) := by decide +kernel
theorem dL_law__1996 : decode cL_law_ 1996 = .ok (.iadd, 1) := by decide +kernel
theorem dL_law__1997 : decode cL_law_ 1997 = .ok (.iaload, 1) := by decide +kernel
theorem dL_law__1998 : decode cL_law_ 1998 = .ok (.aload_n 0, 1) := by decide +kernel
theorem dL_law__1999 : decode cL_law_ 1999 = .ok (.iload 4, 2) := by decide +kernel
theorem dL_law__2001 : decode cL_law_ 2001 = .ok (.iconst 2, 1) := by decide +kernel
theorem dL_law__2002 : decode cL_law_ 2002 = .ok (.iadd, 1) := by decide +kernel
theorem dL_law__2003 : decode cL_law_ 2003 = .ok (.iaload, 1) := by decide +kernel
theorem dL_law__2004 : decode cL_law_ 2004 = .ok (.aload_n 0, 1) := by decide +kernel
theorem dL_law__2005 : decode cL_law_ 2005 = .ok (.iload 4, 2) := by decide +kernel
theorem dL_law__2007 : decode cL_law_ 2007 = .ok (.iconst 3, 1) := by decide +kernel
theorem dL_law__2008 : decode cL_law_ 2008 = .ok (.iadd, 1) := by decide +kernel
theorem dL_law__2009 : decode cL_law_ 2009 = .ok (.iaload, 1) := by decide +kernel
theorem dL_law__2010 : decode cL_law_ 2010 = .ok (.aload_n 0, 1) := by decide +kernel
theorem dL_law__2011 : decode cL_law_ 2011 = .ok (.iload 4, 2) := by decide +kernel
theorem dL_law__2013 : decode cL_law_ 2013 = .ok (.iconst 4, 1) := by decide +kernel
theorem dL_law__2014 : decode cL_law_ 2014 = .ok (.iadd, 1) := by decide +kernel
theorem dL_law__2015 : decode cL_law_ 2015 = .ok (.iaload, 1) := by decide +kernel
theorem dL_law__2016 : decode cL_law_ 2016 = .ok (.invokevirtual 227, 3) := by decide +kernel
theorem dL_law__2019 : decode cL_law_ 2019 = .ok (.istore 6, 2) := by decide +kernel
theorem dL_law__2021 : decode cL_law_ 2021 = .ok (.aload_n 2, 1) := by decide +kernel
theorem dL_law__2022 : decode cL_law_ 2022 = .ok (.invokevirtual 133, 3) := by decide +kernel
theorem dL_law__2025 : decode cL_law_ 2025 = .ok (.iload 5, 2) := by decide +kernel
theorem dL_law__2027 : decode cL_law_ 2027 = .ok (.if_icmp .eq 5, 3) := by decide +kernel
theorem dL_law__2030 : decode cL_law_ 2030 = .ok (.iconst 0, 1) := by decide +kernel
theorem dL_law__2031 : decode cL_law_ 2031 = .ok (.ireturn, 1) := by decide +kernel
theorem dL_law__2032 : decode cL_law_ 2032 = .ok (.iload 5, 2) := by decide +kernel
theorem dL_law__2034 : decode cL_law_ 2034 = .ok (.ifCond .ne 15, 3) := by decide +kernel
theorem dL_law__2037 : decode cL_law_ 2037 = .ok (.aload_n 3, 1) := by decide +kernel
theorem dL_law__2038 : decode cL_law_ 2038 = .ok (.iconst 0, 1) := by decide +kernel
theorem dL_law__2039 : decode cL_law_ 2039 = .ok (.laload, 1) := by decide +kernel
theorem dL_law__2040 : decode cL_law_ 2040 = .ok (.iload 6, 2) := by decide +kernel
theorem dL_law__2042 : decode cL_law_ 2042 = .ok (.i2l, 1) := by decide +kernel
theorem dL_law__2043 : decode cL_law_ 2043 = .ok (.lcmp, 1) := by decide +kernel
theorem dL_law__2044 : decode cL_law_ 2044 = .ok (.ifCond .eq 5, 3) := by decide +kernel
theorem dL_law__2047 : decode cL_law_ 2047 = .ok (.iconst 0, 1) := by decide +kernel
theorem dL_law__2048 : decode cL_law_ 2048 = .ok (.ireturn, 1) := by decide +kernel
theorem dL_law__2049 : decode cL_law_ 2049 = .ok (.goto 684, 3) := by decide +kernel
theorem dL_law__2052 : decode cL_law_ 2052 = .ok (.aload_n 1, 1) := by decide +kernel
theorem dL_law__2053 : decode cL_law_ 2053 = .ok (.aload_n 0, 1) := by decide +kernel
theorem dL_law__2054 : decode cL_law_ 2054 = .ok (.iload 4, 2) := by decide +kernel
theorem dL_law__2056 : decode cL_law_ 2056 = .ok (.iconst 1, 1) := by decide +kernel
theorem dL_law__2057 : decode cL_law_ 2057 = .ok (.iadd, 1) := by decide +kernel
theorem dL_law__2058 : decode cL_law_ 2058 = .ok (.iaload, 1) := by decide +kernel
theorem dL_law__2059 : decode cL_law_ 2059 = .ok (.aload_n 0, 1) := by decide +kernel
theorem dL_law__2060 : decode cL_law_ 2060 = .ok (.iload 4, 2) := by decide +kernel
theorem dL_law__2062 : decode cL_law_ 2062 = .ok (.iconst 2, 1) := by decide +kernel
theorem dL_law__2063 : decode cL_law_ 2063 = .ok (.iadd, 1) := by decide +kernel
theorem dL_law__2064 : decode cL_law_ 2064 = .ok (.iaload, 1) := by decide +kernel
theorem dL_law__2065 : decode cL_law_ 2065 = .ok (.aload_n 0, 1) := by decide +kernel
theorem dL_law__2066 : decode cL_law_ 2066 = .ok (.iload 4, 2) := by decide +kernel
theorem dL_law__2068 : decode cL_law_ 2068 = .ok (.iconst 3, 1) := by decide +kernel
theorem dL_law__2069 : decode cL_law_ 2069 = .ok (.iadd, 1) := by decide +kernel
theorem dL_law__2070 : decode cL_law_ 2070 = .ok (.iaload, 1) := by decide +kernel
theorem dL_law__2071 : decode cL_law_ 2071 = .ok (.aload_n 3, 1) := by decide +kernel
theorem dL_law__2072 : decode cL_law_ 2072 = .ok (.invokestatic 228, 3) := by decide +kernel
theorem dL_law__2075 : decode cL_law_ 2075 = .ok (.istore 5, 2) := by decide +kernel
theorem dL_law__2077 : decode cL_law_ 2077 = .ok (.aload_n 2, 1) := by decide +kernel
theorem dL_law__2078 : decode cL_law_ 2078 = .ok (.aload_n 0, 1) := by decide +kernel
theorem dL_law__2079 : decode cL_law_ 2079 = .ok (.iload 4, 2) := by decide +kernel
theorem dL_law__2081 : decode cL_law_ 2081 = .ok (.iconst 1, 1) := by decide +kernel
theorem dL_law__2082 : decode cL_law_ 2082 = .ok (.iadd, 1) := by decide +kernel
theorem dL_law__2083 : decode cL_law_ 2083 = .ok (.iaload, 1) := by decide +kernel
theorem dL_law__2084 : decode cL_law_ 2084 = .ok (.aload_n 0, 1) := by decide +kernel
theorem dL_law__2085 : decode cL_law_ 2085 = .ok (.iload 4, 2) := by decide +kernel
theorem dL_law__2087 : decode cL_law_ 2087 = .ok (.iconst 2, 1) := by decide +kernel
theorem dL_law__2088 : decode cL_law_ 2088 = .ok (.iadd, 1) := by decide +kernel
theorem dL_law__2089 : decode cL_law_ 2089 = .ok (.iaload, 1) := by decide +kernel
theorem dL_law__2090 : decode cL_law_ 2090 = .ok (.aload_n 0, 1) := by decide +kernel
theorem dL_law__2091 : decode cL_law_ 2091 = .ok (.iload 4, 2) := by decide +kernel
theorem dL_law__2093 : decode cL_law_ 2093 = .ok (.iconst 3, 1) := by decide +kernel
theorem dL_law__2094 : decode cL_law_ 2094 = .ok (.iadd, 1) := by decide +kernel
theorem dL_law__2095 : decode cL_law_ 2095 = .ok (.iaload, 1) := by decide +kernel
theorem dL_law__2096 : decode cL_law_ 2096 = .ok (.invokevirtual 230, 3) := by decide +kernel
theorem dL_law__2099 : decode cL_law_ 2099 = .ok (.istore 6, 2) := by decide +kernel
theorem dL_law__2101 : decode cL_law_ 2101 = .ok (.aload_n 2, 1) := by decide +kernel
theorem dL_law__2102 : decode cL_law_ 2102 = .ok (.invokevirtual 133, 3) := by decide +kernel
theorem dL_law__2105 : decode cL_law_ 2105 = .ok (.iload 5, 2) := by decide +kernel
theorem dL_law__2107 : decode cL_law_ 2107 = .ok (.if_icmp .eq 5, 3) := by decide +kernel
theorem dL_law__2110 : decode cL_law_ 2110 = .ok (.iconst 0, 1) := by decide +kernel
theorem dL_law__2111 : decode cL_law_ 2111 = .ok (.ireturn, 1) := by decide +kernel
theorem dL_law__2112 : decode cL_law_ 2112 = .ok (.iload 5, 2) := by decide +kernel
theorem dL_law__2114 : decode cL_law_ 2114 = .ok (.ifCond .ne 15, 3) := by decide +kernel
theorem dL_law__2117 : decode cL_law_ 2117 = .ok (.aload_n 3, 1) := by decide +kernel
theorem dL_law__2118 : decode cL_law_ 2118 = .ok (.iconst 0, 1) := by decide +kernel
theorem dL_law__2119 : decode cL_law_ 2119 = .ok (.laload, 1) := by decide +kernel
theorem dL_law__2120 : decode cL_law_ 2120 = .ok (.iload 6, 2) := by decide +kernel
theorem dL_law__2122 : decode cL_law_ 2122 = .ok (.i2l, 1) := by decide +kernel
theorem dL_law__2123 : decode cL_law_ 2123 = .ok (.lcmp, 1) := by decide +kernel
theorem dL_law__2124 : decode cL_law_ 2124 = .ok (.ifCond .eq 5, 3) := by decide +kernel
theorem dL_law__2127 : decode cL_law_ 2127 = .ok (.iconst 0, 1) := by decide +kernel
theorem dL_law__2128 : decode cL_law_ 2128 = .ok (.ireturn, 1) := by decide +kernel
theorem dL_law__2129 : decode cL_law_ 2129 = .ok (.goto 604, 3) := by decide +kernel
theorem dL_law__2132 : decode cL_law_ 2132 = .ok (.aload_n 1, 1) := by decide +kernel
theorem dL_law__2133 : decode cL_law_ 2133 = .ok (.aload_n 0, 1) := by decide +kernel
theorem dL_law__2134 : decode cL_law_ 2134 = .ok (.iload 4, 2) := by decide +kernel
theorem dL_law__2136 : decode cL_law_ 2136 = .ok (.iconst 1, 1) := by decide +kernel
theorem dL_law__2137 : decode cL_law_ 2137 = .ok (.iadd, 1) := by decide +kernel
theorem dL_law__2138 : decode cL_law_ 2138 = .ok (.iaload, 1) := by decide +kernel
theorem dL_law__2139 : decode cL_law_ 2139 = .ok (.aload_n 0, 1) := by decide +kernel
theorem dL_law__2140 : decode cL_law_ 2140 = .ok (.iload 4, 2) := by decide +kernel
theorem dL_law__2142 : decode cL_law_ 2142 = .ok (.iconst 2, 1) := by decide +kernel
theorem dL_law__2143 : decode cL_law_ 2143 = .ok (.iadd, 1) := by decide +kernel
theorem dL_law__2144 : decode cL_law_ 2144 = .ok (.iaload, 1) := by decide +kernel
theorem dL_law__2145 : decode cL_law_ 2145 = .ok (.aload_n 3, 1) := by decide +kernel
theorem dL_law__2146 : decode cL_law_ 2146 = .ok (.invokestatic 231, 3) := by decide +kernel
theorem dL_law__2149 : decode cL_law_ 2149 = .ok (.istore 5, 2) := by decide +kernel
theorem dL_law__2151 : decode cL_law_ 2151 = .ok (.aload_n 2, 1) := by decide +kernel
theorem dL_law__2152 : decode cL_law_ 2152 = .ok (.aload_n 0, 1) := by decide +kernel
theorem dL_law__2153 : decode cL_law_ 2153 = .ok (.iload 4, 2) := by decide +kernel
theorem dL_law__2155 : decode cL_law_ 2155 = .ok (.iconst 1, 1) := by decide +kernel
theorem dL_law__2156 : decode cL_law_ 2156 = .ok (.iadd, 1) := by decide +kernel
theorem dL_law__2157 : decode cL_law_ 2157 = .ok (.iaload, 1) := by decide +kernel
theorem dL_law__2158 : decode cL_law_ 2158 = .ok (.aload_n 0, 1) := by decide +kernel
theorem dL_law__2159 : decode cL_law_ 2159 = .ok (.iload 4, 2) := by decide +kernel
theorem dL_law__2161 : decode cL_law_ 2161 = .ok (.iconst 2, 1) := by decide +kernel
theorem dL_law__2162 : decode cL_law_ 2162 = .ok (.iadd, 1) := by decide +kernel
theorem dL_law__2163 : decode cL_law_ 2163 = .ok (.iaload, 1) := by decide +kernel
theorem dL_law__2164 : decode cL_law_ 2164 = .ok (.invokevirtual 233, 3) := by decide +kernel
theorem dL_law__2167 : decode cL_law_ 2167 = .ok (.istore 6, 2) := by decide +kernel
theorem dL_law__2169 : decode cL_law_ 2169 = .ok (.aload_n 2, 1) := by decide +kernel
theorem dL_law__2170 : decode cL_law_ 2170 = .ok (.invokevirtual 133, 3) := by decide +kernel
theorem dL_law__2173 : decode cL_law_ 2173 = .ok (.iload 5, 2) := by decide +kernel
theorem dL_law__2175 : decode cL_law_ 2175 = .ok (.if_icmp .eq 5, 3) := by decide +kernel
theorem dL_law__2178 : decode cL_law_ 2178 = .ok (.iconst 0, 1) := by decide +kernel
theorem dL_law__2179 : decode cL_law_ 2179 = .ok (.ireturn, 1) := by decide +kernel
theorem dL_law__2180 : decode cL_law_ 2180 = .ok (.iload 5, 2) := by decide +kernel
theorem dL_law__2182 : decode cL_law_ 2182 = .ok (.ifCond .ne 15, 3) := by decide +kernel
theorem dL_law__2185 : decode cL_law_ 2185 = .ok (.aload_n 3, 1) := by decide +kernel
theorem dL_law__2186 : decode cL_law_ 2186 = .ok (.iconst 0, 1) := by decide +kernel
theorem dL_law__2187 : decode cL_law_ 2187 = .ok (.laload, 1) := by decide +kernel
theorem dL_law__2188 : decode cL_law_ 2188 = .ok (.iload 6, 2) := by decide +kernel
theorem dL_law__2190 : decode cL_law_ 2190 = .ok (.i2l, 1) := by decide +kernel
theorem dL_law__2191 : decode cL_law_ 2191 = .ok (.lcmp, 1) := by decide +kernel
theorem dL_law__2192 : decode cL_law_ 2192 = .ok (.ifCond .eq 5, 3) := by decide +kernel
theorem dL_law__2195 : decode cL_law_ 2195 = .ok (.iconst 0, 1) := by decide +kernel
theorem dL_law__2196 : decode cL_law_ 2196 = .ok (.ireturn, 1) := by decide +kernel
theorem dL_law__2197 : decode cL_law_ 2197 = .ok (.goto 536, 3) := by decide +kernel
theorem dL_law__2200 : decode cL_law_ 2200 = .ok (.aload_n 1, 1) := by decide +kernel
theorem dL_law__2201 : decode cL_law_ 2201 = .ok (.aload_n 0, 1) := by decide +kernel
theorem dL_law__2202 : decode cL_law_ 2202 = .ok (.iload 4, 2) := by decide +kernel
theorem dL_law__2204 : decode cL_law_ 2204 = .ok (.iconst 1, 1) := by decide +kernel
theorem dL_law__2205 : decode cL_law_ 2205 = .ok (.iadd, 1) := by decide +kernel
theorem dL_law__2206 : decode cL_law_ 2206 = .ok (.iaload, 1) := by decide +kernel
theorem dL_law__2207 : decode cL_law_ 2207 = .ok (.aload_n 0, 1) := by decide +kernel
theorem dL_law__2208 : decode cL_law_ 2208 = .ok (.iload 4, 2) := by decide +kernel
theorem dL_law__2210 : decode cL_law_ 2210 = .ok (.iconst 2, 1) := by decide +kernel
theorem dL_law__2211 : decode cL_law_ 2211 = .ok (.iadd, 1) := by decide +kernel
theorem dL_law__2212 : decode cL_law_ 2212 = .ok (.iaload, 1) := by decide +kernel
theorem dL_law__2213 : decode cL_law_ 2213 = .ok (.aload_n 3, 1) := by decide +kernel
theorem dL_law__2214 : decode cL_law_ 2214 = .ok (.invokestatic 234, 3) := by decide +kernel
theorem dL_law__2217 : decode cL_law_ 2217 = .ok (.istore 5, 2) := by decide +kernel
theorem dL_law__2219 : decode cL_law_ 2219 = .ok (.aload_n 2, 1) := by decide +kernel
theorem dL_law__2220 : decode cL_law_ 2220 = .ok (.aload_n 0, 1) := by decide +kernel
theorem dL_law__2221 : decode cL_law_ 2221 = .ok (.iload 4, 2) := by decide +kernel
theorem dL_law__2223 : decode cL_law_ 2223 = .ok (.iconst 1, 1) := by decide +kernel
theorem dL_law__2224 : decode cL_law_ 2224 = .ok (.iadd, 1) := by decide +kernel
theorem dL_law__2225 : decode cL_law_ 2225 = .ok (.iaload, 1) := by decide +kernel
theorem dL_law__2226 : decode cL_law_ 2226 = .ok (.aload_n 0, 1) := by decide +kernel
theorem dL_law__2227 : decode cL_law_ 2227 = .ok (.iload 4, 2) := by decide +kernel
theorem dL_law__2229 : decode cL_law_ 2229 = .ok (.iconst 2, 1) := by decide +kernel
theorem dL_law__2230 : decode cL_law_ 2230 = .ok (.iadd, 1) := by decide +kernel
theorem dL_law__2231 : decode cL_law_ 2231 = .ok (.iaload, 1) := by decide +kernel
theorem dL_law__2232 : decode cL_law_ 2232 = .ok (.invokevirtual 236, 3) := by decide +kernel
theorem dL_law__2235 : decode cL_law_ 2235 = .ok (.istore 6, 2) := by decide +kernel
theorem dL_law__2237 : decode cL_law_ 2237 = .ok (.aload_n 2, 1) := by decide +kernel
theorem dL_law__2238 : decode cL_law_ 2238 = .ok (.invokevirtual 133, 3) := by decide +kernel
theorem dL_law__2241 : decode cL_law_ 2241 = .ok (.iload 5, 2) := by decide +kernel
theorem dL_law__2243 : decode cL_law_ 2243 = .ok (.if_icmp .eq 5, 3) := by decide +kernel
theorem dL_law__2246 : decode cL_law_ 2246 = .ok (.iconst 0, 1) := by decide +kernel
theorem dL_law__2247 : decode cL_law_ 2247 = .ok (.ireturn, 1) := by decide +kernel
theorem dL_law__2248 : decode cL_law_ 2248 = .ok (.iload 5, 2) := by decide +kernel
theorem dL_law__2250 : decode cL_law_ 2250 = .ok (.ifCond .ne 22, 3) := by decide +kernel
theorem dL_law__2253 : decode cL_law_ 2253 = .ok (.aload_n 3, 1) := by decide +kernel
theorem dL_law__2254 : decode cL_law_ 2254 = .ok (.iconst 0, 1) := by decide +kernel
theorem dL_law__2255 : decode cL_law_ 2255 = .ok (.laload, 1) := by decide +kernel
theorem dL_law__2256 : decode cL_law_ 2256 = .ok (.iload 6, 2) := by decide +kernel
theorem dL_law__2258 : decode cL_law_ 2258 = .ok (.ifCond .eq 7, 3) := by decide +kernel
theorem dL_law__2261 : decode cL_law_ 2261 = .ok (.lconst 1, 1) := by decide +kernel
theorem dL_law__2262 : decode cL_law_ 2262 = .ok (.goto 4, 3) := by decide +kernel
theorem dL_law__2265 : decode cL_law_ 2265 = .ok (.lconst 0, 1) := by decide +kernel
theorem dL_law__2266 : decode cL_law_ 2266 = .ok (.lcmp, 1) := by decide +kernel
theorem dL_law__2267 : decode cL_law_ 2267 = .ok (.ifCond .eq 5, 3) := by decide +kernel
theorem dL_law__2270 : decode cL_law_ 2270 = .ok (.iconst 0, 1) := by decide +kernel
theorem dL_law__2271 : decode cL_law_ 2271 = .ok (.ireturn, 1) := by decide +kernel
theorem dL_law__2272 : decode cL_law_ 2272 = .ok (.goto 461, 3) := by decide +kernel
theorem dL_law__2275 : decode cL_law_ 2275 = .ok (.aload_n 1, 1) := by decide +kernel
theorem dL_law__2276 : decode cL_law_ 2276 = .ok (.aload_n 0, 1) := by decide +kernel
theorem dL_law__2277 : decode cL_law_ 2277 = .ok (.iload 4, 2) := by decide +kernel
theorem dL_law__2279 : decode cL_law_ 2279 = .ok (.iconst 1, 1) := by decide +kernel
theorem dL_law__2280 : decode cL_law_ 2280 = .ok (.iadd, 1) := by decide +kernel
theorem dL_law__2281 : decode cL_law_ 2281 = .ok (.iaload, 1) := by decide +kernel
theorem dL_law__2282 : decode cL_law_ 2282 = .ok (.aload_n 0, 1) := by decide +kernel
theorem dL_law__2283 : decode cL_law_ 2283 = .ok (.iload 4, 2) := by decide +kernel
theorem dL_law__2285 : decode cL_law_ 2285 = .ok (.iconst 2, 1) := by decide +kernel
theorem dL_law__2286 : decode cL_law_ 2286 = .ok (.iadd, 1) := by decide +kernel
theorem dL_law__2287 : decode cL_law_ 2287 = .ok (.iaload, 1) := by decide +kernel
theorem dL_law__2288 : decode cL_law_ 2288 = .ok (.aload_n 0, 1) := by decide +kernel
theorem dL_law__2289 : decode cL_law_ 2289 = .ok (.iload 4, 2) := by decide +kernel
theorem dL_law__2291 : decode cL_law_ 2291 = .ok (.iconst 3, 1) := by decide +kernel
theorem dL_law__2292 : decode cL_law_ 2292 = .ok (.iadd, 1) := by decide +kernel
theorem dL_law__2293 : decode cL_law_ 2293 = .ok (.iaload, 1) := by decide +kernel
theorem dL_law__2294 : decode cL_law_ 2294 = .ok (.aload_n 0, 1) := by decide +kernel
theorem dL_law__2295 : decode cL_law_ 2295 = .ok (.iload 4, 2) := by decide +kernel
theorem dL_law__2297 : decode cL_law_ 2297 = .ok (.iconst 4, 1) := by decide +kernel
theorem dL_law__2298 : decode cL_law_ 2298 = .ok (.iadd, 1) := by decide +kernel
theorem dL_law__2299 : decode cL_law_ 2299 = .ok (.iaload, 1) := by decide +kernel
theorem dL_law__2300 : decode cL_law_ 2300 = .ok (.aload_n 3, 1) := by decide +kernel
theorem dL_law__2301 : decode cL_law_ 2301 = .ok (.invokestatic 237, 3) := by decide +kernel
theorem dL_law__2304 : decode cL_law_ 2304 = .ok (.istore 5, 2) := by decide +kernel
theorem dL_law__2306 : decode cL_law_ 2306 = .ok (.aload_n 2, 1) := by decide +kernel
theorem dL_law__2307 : decode cL_law_ 2307 = .ok (.aload_n 0, 1) := by decide +kernel
theorem dL_law__2308 : decode cL_law_ 2308 = .ok (.iload 4, 2) := by decide +kernel
theorem dL_law__2310 : decode cL_law_ 2310 = .ok (.iconst 1, 1) := by decide +kernel
theorem dL_law__2311 : decode cL_law_ 2311 = .ok (.iadd, 1) := by decide +kernel
theorem dL_law__2312 : decode cL_law_ 2312 = .ok (.iaload, 1) := by decide +kernel
theorem dL_law__2313 : decode cL_law_ 2313 = .ok (.aload_n 0, 1) := by decide +kernel
theorem dL_law__2314 : decode cL_law_ 2314 = .ok (.iload 4, 2) := by decide +kernel
theorem dL_law__2316 : decode cL_law_ 2316 = .ok (.iconst 2, 1) := by decide +kernel
theorem dL_law__2317 : decode cL_law_ 2317 = .ok (.iadd, 1) := by decide +kernel
theorem dL_law__2318 : decode cL_law_ 2318 = .ok (.iaload, 1) := by decide +kernel
theorem dL_law__2319 : decode cL_law_ 2319 = .ok (.aload_n 0, 1) := by decide +kernel
theorem dL_law__2320 : decode cL_law_ 2320 = .ok (.iload 4, 2) := by decide +kernel
theorem dL_law__2322 : decode cL_law_ 2322 = .ok (.iconst 3, 1) := by decide +kernel
theorem dL_law__2323 : decode cL_law_ 2323 = .ok (.iadd, 1) := by decide +kernel
theorem dL_law__2324 : decode cL_law_ 2324 = .ok (.iaload, 1) := by decide +kernel
theorem dL_law__2325 : decode cL_law_ 2325 = .ok (.aload_n 0, 1) := by decide +kernel
theorem dL_law__2326 : decode cL_law_ 2326 = .ok (.iload 4, 2) := by decide +kernel
theorem dL_law__2328 : decode cL_law_ 2328 = .ok (.iconst 4, 1) := by decide +kernel
theorem dL_law__2329 : decode cL_law_ 2329 = .ok (.iadd, 1) := by decide +kernel
theorem dL_law__2330 : decode cL_law_ 2330 = .ok (.iaload, 1) := by decide +kernel
theorem dL_law__2331 : decode cL_law_ 2331 = .ok (.invokevirtual 239, 3) := by decide +kernel
theorem dL_law__2334 : decode cL_law_ 2334 = .ok (.istore 6, 2) := by decide +kernel
theorem dL_law__2336 : decode cL_law_ 2336 = .ok (.aload_n 2, 1) := by decide +kernel
theorem dL_law__2337 : decode cL_law_ 2337 = .ok (.invokevirtual 133, 3) := by decide +kernel
theorem dL_law__2340 : decode cL_law_ 2340 = .ok (.iload 5, 2) := by decide +kernel
theorem dL_law__2342 : decode cL_law_ 2342 = .ok (.if_icmp .eq 5, 3) := by decide +kernel
theorem dL_law__2345 : decode cL_law_ 2345 = .ok (.iconst 0, 1) := by decide +kernel
theorem dL_law__2346 : decode cL_law_ 2346 = .ok (.ireturn, 1) := by decide +kernel
theorem dL_law__2347 : decode cL_law_ 2347 = .ok (.iload 5, 2) := by decide +kernel
theorem dL_law__2349 : decode cL_law_ 2349 = .ok (.ifCond .ne 15, 3) := by decide +kernel
theorem dL_law__2352 : decode cL_law_ 2352 = .ok (.aload_n 3, 1) := by decide +kernel
theorem dL_law__2353 : decode cL_law_ 2353 = .ok (.iconst 0, 1) := by decide +kernel
theorem dL_law__2354 : decode cL_law_ 2354 = .ok (.laload, 1) := by decide +kernel
theorem dL_law__2355 : decode cL_law_ 2355 = .ok (.iload 6, 2) := by decide +kernel
theorem dL_law__2357 : decode cL_law_ 2357 = .ok (.i2l, 1) := by decide +kernel
theorem dL_law__2358 : decode cL_law_ 2358 = .ok (.lcmp, 1) := by decide +kernel
theorem dL_law__2359 : decode cL_law_ 2359 = .ok (.ifCond .eq 5, 3) := by decide +kernel
theorem dL_law__2362 : decode cL_law_ 2362 = .ok (.iconst 0, 1) := by decide +kernel
theorem dL_law__2363 : decode cL_law_ 2363 = .ok (.ireturn, 1) := by decide +kernel
theorem dL_law__2364 : decode cL_law_ 2364 = .ok (.goto 369, 3) := by decide +kernel
theorem dL_law__2367 : decode cL_law_ 2367 = .ok (.aload_n 1, 1) := by decide +kernel
theorem dL_law__2368 : decode cL_law_ 2368 = .ok (.aload_n 0, 1) := by decide +kernel
theorem dL_law__2369 : decode cL_law_ 2369 = .ok (.iload 4, 2) := by decide +kernel
theorem dL_law__2371 : decode cL_law_ 2371 = .ok (.iconst 1, 1) := by decide +kernel
theorem dL_law__2372 : decode cL_law_ 2372 = .ok (.iadd, 1) := by decide +kernel
theorem dL_law__2373 : decode cL_law_ 2373 = .ok (.iaload, 1) := by decide +kernel
theorem dL_law__2374 : decode cL_law_ 2374 = .ok (.aload_n 0, 1) := by decide +kernel
theorem dL_law__2375 : decode cL_law_ 2375 = .ok (.iload 4, 2) := by decide +kernel
theorem dL_law__2377 : decode cL_law_ 2377 = .ok (.iconst 2, 1) := by decide +kernel
theorem dL_law__2378 : decode cL_law_ 2378 = .ok (.iadd, 1) := by decide +kernel
theorem dL_law__2379 : decode cL_law_ 2379 = .ok (.iaload, 1) := by decide +kernel
theorem dL_law__2380 : decode cL_law_ 2380 = .ok (.aload_n 0, 1) := by decide +kernel
theorem dL_law__2381 : decode cL_law_ 2381 = .ok (.iload 4, 2) := by decide +kernel
theorem dL_law__2383 : decode cL_law_ 2383 = .ok (.iconst 3, 1) := by decide +kernel
theorem dL_law__2384 : decode cL_law_ 2384 = .ok (.iadd, 1) := by decide +kernel
theorem dL_law__2385 : decode cL_law_ 2385 = .ok (.iaload, 1) := by decide +kernel
theorem dL_law__2386 : decode cL_law_ 2386 = .ok (.aload_n 3, 1) := by decide +kernel
theorem dL_law__2387 : decode cL_law_ 2387 = .ok (.invokestatic 240, 3) := by decide +kernel
theorem dL_law__2390 : decode cL_law_ 2390 = .ok (.istore 5, 2) := by decide +kernel
theorem dL_law__2392 : decode cL_law_ 2392 = .ok (.aload_n 2, 1) := by decide +kernel
theorem dL_law__2393 : decode cL_law_ 2393 = .ok (.aload_n 0, 1) := by decide +kernel
theorem dL_law__2394 : decode cL_law_ 2394 = .ok (.iload 4, 2) := by decide +kernel
theorem dL_law__2396 : decode cL_law_ 2396 = .ok (.iconst 1, 1) := by decide +kernel
theorem dL_law__2397 : decode cL_law_ 2397 = .ok (.iadd, 1) := by decide +kernel
theorem dL_law__2398 : decode cL_law_ 2398 = .ok (.iaload, 1) := by decide +kernel
theorem dL_law__2399 : decode cL_law_ 2399 = .ok (.aload_n 0, 1) := by decide +kernel
theorem dL_law__2400 : decode cL_law_ 2400 = .ok (.iload 4, 2) := by decide +kernel
theorem dL_law__2402 : decode cL_law_ 2402 = .ok (.iconst 2, 1) := by decide +kernel
theorem dL_law__2403 : decode cL_law_ 2403 = .ok (.iadd, 1) := by decide +kernel
theorem dL_law__2404 : decode cL_law_ 2404 = .ok (.iaload, 1) := by decide +kernel
theorem dL_law__2405 : decode cL_law_ 2405 = .ok (.aload_n 0, 1) := by decide +kernel
theorem dL_law__2406 : decode cL_law_ 2406 = .ok (.iload 4, 2) := by decide +kernel
theorem dL_law__2408 : decode cL_law_ 2408 = .ok (.iconst 3, 1) := by decide +kernel
theorem dL_law__2409 : decode cL_law_ 2409 = .ok (.iadd, 1) := by decide +kernel
theorem dL_law__2410 : decode cL_law_ 2410 = .ok (.iaload, 1) := by decide +kernel
theorem dL_law__2411 : decode cL_law_ 2411 = .ok (.invokevirtual 242, 3) := by decide +kernel
theorem dL_law__2414 : decode cL_law_ 2414 = .ok (.istore 6, 2) := by decide +kernel
theorem dL_law__2416 : decode cL_law_ 2416 = .ok (.aload_n 2, 1) := by decide +kernel
theorem dL_law__2417 : decode cL_law_ 2417 = .ok (.invokevirtual 133, 3) := by decide +kernel
theorem dL_law__2420 : decode cL_law_ 2420 = .ok (.iload 5, 2) := by decide +kernel
theorem dL_law__2422 : decode cL_law_ 2422 = .ok (.if_icmp .eq 5, 3) := by decide +kernel
theorem dL_law__2425 : decode cL_law_ 2425 = .ok (.iconst 0, 1) := by decide +kernel
theorem dL_law__2426 : decode cL_law_ 2426 = .ok (.ireturn, 1) := by decide +kernel
theorem dL_law__2427 : decode cL_law_ 2427 = .ok (.iload 5, 2) := by decide +kernel
theorem dL_law__2429 : decode cL_law_ 2429 = .ok (.ifCond .ne 15, 3) := by decide +kernel
theorem dL_law__2432 : decode cL_law_ 2432 = .ok (.aload_n 3, 1) := by decide +kernel
theorem dL_law__2433 : decode cL_law_ 2433 = .ok (.iconst 0, 1) := by decide +kernel
theorem dL_law__2434 : decode cL_law_ 2434 = .ok (.laload, 1) := by decide +kernel
theorem dL_law__2435 : decode cL_law_ 2435 = .ok (.iload 6, 2) := by decide +kernel
theorem dL_law__2437 : decode cL_law_ 2437 = .ok (.i2l, 1) := by decide +kernel
theorem dL_law__2438 : decode cL_law_ 2438 = .ok (.lcmp, 1) := by decide +kernel
theorem dL_law__2439 : decode cL_law_ 2439 = .ok (.ifCond .eq 5, 3) := by decide +kernel
theorem dL_law__2442 : decode cL_law_ 2442 = .ok (.iconst 0, 1) := by decide +kernel
theorem dL_law__2443 : decode cL_law_ 2443 = .ok (.ireturn, 1) := by decide +kernel
theorem dL_law__2444 : decode cL_law_ 2444 = .ok (.goto 289, 3) := by decide +kernel
theorem dL_law__2447 : decode cL_law_ 2447 = .ok (.aload_n 1, 1) := by decide +kernel
theorem dL_law__2448 : decode cL_law_ 2448 = .ok (.aload_n 0, 1) := by decide +kernel
theorem dL_law__2449 : decode cL_law_ 2449 = .ok (.iload 4, 2) := by decide +kernel
theorem dL_law__2451 : decode cL_law_ 2451 = .ok (.iconst 1, 1) := by decide +kernel
theorem dL_law__2452 : decode cL_law_ 2452 = .ok (.iadd, 1) := by decide +kernel
theorem dL_law__2453 : decode cL_law_ 2453 = .ok (.iaload, 1) := by decide +kernel
theorem dL_law__2454 : decode cL_law_ 2454 = .ok (.aload_n 0, 1) := by decide +kernel
theorem dL_law__2455 : decode cL_law_ 2455 = .ok (.iload 4, 2) := by decide +kernel
theorem dL_law__2457 : decode cL_law_ 2457 = .ok (.iconst 2, 1) := by decide +kernel
theorem dL_law__2458 : decode cL_law_ 2458 = .ok (.iadd, 1) := by decide +kernel
theorem dL_law__2459 : decode cL_law_ 2459 = .ok (.iaload, 1) := by decide +kernel
theorem dL_law__2460 : decode cL_law_ 2460 = .ok (.aload_n 0, 1) := by decide +kernel
theorem dL_law__2461 : decode cL_law_ 2461 = .ok (.iload 4, 2) := by decide +kernel
theorem dL_law__2463 : decode cL_law_ 2463 = .ok (.iconst 3, 1) := by decide +kernel
theorem dL_law__2464 : decode cL_law_ 2464 = .ok (.iadd, 1) := by decide +kernel
theorem dL_law__2465 : decode cL_law_ 2465 = .ok (.iaload, 1) := by decide +kernel
theorem dL_law__2466 : decode cL_law_ 2466 = .ok (.aload_n 0, 1) := by decide +kernel
theorem dL_law__2467 : decode cL_law_ 2467 = .ok (.iload 4, 2) := by decide +kernel
theorem dL_law__2469 : decode cL_law_ 2469 = .ok (.iconst 4, 1) := by decide +kernel
theorem dL_law__2470 : decode cL_law_ 2470 = .ok (.iadd, 1) := by decide +kernel
theorem dL_law__2471 : decode cL_law_ 2471 = .ok (.iaload, 1) := by decide +kernel
theorem dL_law__2472 : decode cL_law_ 2472 = .ok (.aload_n 3, 1) := by decide +kernel
theorem dL_law__2473 : decode cL_law_ 2473 = .ok (.invokestatic 243, 3) := by decide +kernel
theorem dL_law__2476 : decode cL_law_ 2476 = .ok (.istore 5, 2) := by decide +kernel
theorem dL_law__2478 : decode cL_law_ 2478 = .ok (.aload_n 2, 1) := by decide +kernel
theorem dL_law__2479 : decode cL_law_ 2479 = .ok (.aload_n 0, 1) := by decide +kernel
theorem dL_law__2480 : decode cL_law_ 2480 = .ok (.iload 4, 2) := by decide +kernel
theorem dL_law__2482 : decode cL_law_ 2482 = .ok (.iconst 1, 1) := by decide +kernel
theorem dL_law__2483 : decode cL_law_ 2483 = .ok (.iadd, 1) := by decide +kernel
theorem dL_law__2484 : decode cL_law_ 2484 = .ok (.iaload, 1) := by decide +kernel
theorem dL_law__2485 : decode cL_law_ 2485 = .ok (.aload_n 0, 1) := by decide +kernel
theorem dL_law__2486 : decode cL_law_ 2486 = .ok (.iload 4, 2) := by decide +kernel
theorem dL_law__2488 : decode cL_law_ 2488 = .ok (.iconst 2, 1) := by decide +kernel
theorem dL_law__2489 : decode cL_law_ 2489 = .ok (.iadd, 1) := by decide +kernel
theorem dL_law__2490 : decode cL_law_ 2490 = .ok (.iaload, 1) := by decide +kernel
theorem dL_law__2491 : decode cL_law_ 2491 = .ok (.aload_n 0, 1) := by decide +kernel
theorem dL_law__2492 : decode cL_law_ 2492 = .ok (.iload 4, 2) := by decide +kernel
theorem dL_law__2494 : decode cL_law_ 2494 = .ok (.iconst 3, 1) := by decide +kernel
theorem dL_law__2495 : decode cL_law_ 2495 = .ok (.iadd, 1) := by decide +kernel
theorem dL_law__2496 : decode cL_law_ 2496 = .ok (.iaload, 1) := by decide +kernel
theorem dL_law__2497 : decode cL_law_ 2497 = .ok (.aload_n 0, 1) := by decide +kernel
theorem dL_law__2498 : decode cL_law_ 2498 = .ok (.iload 4, 2) := by decide +kernel
theorem dL_law__2500 : decode cL_law_ 2500 = .ok (.iconst 4, 1) := by decide +kernel
theorem dL_law__2501 : decode cL_law_ 2501 = .ok (.iadd, 1) := by decide +kernel
theorem dL_law__2502 : decode cL_law_ 2502 = .ok (.iaload, 1) := by decide +kernel
theorem dL_law__2503 : decode cL_law_ 2503 = .ok (.invokevirtual 245, 3) := by decide +kernel
theorem dL_law__2506 : decode cL_law_ 2506 = .ok (.istore 6, 2) := by decide +kernel
theorem dL_law__2508 : decode cL_law_ 2508 = .ok (.aload_n 2, 1) := by decide +kernel
theorem dL_law__2509 : decode cL_law_ 2509 = .ok (.invokevirtual 133, 3) := by decide +kernel
theorem dL_law__2512 : decode cL_law_ 2512 = .ok (.iload 5, 2) := by decide +kernel
theorem dL_law__2514 : decode cL_law_ 2514 = .ok (.if_icmp .eq 5, 3) := by decide +kernel
theorem dL_law__2517 : decode cL_law_ 2517 = .ok (.iconst 0, 1) := by decide +kernel
theorem dL_law__2518 : decode cL_law_ 2518 = .ok (.ireturn, 1) := by decide +kernel
theorem dL_law__2519 : decode cL_law_ 2519 = .ok (.iload 5, 2) := by decide +kernel
theorem dL_law__2521 : decode cL_law_ 2521 = .ok (.ifCond .ne 15, 3) := by decide +kernel
theorem dL_law__2524 : decode cL_law_ 2524 = .ok (.aload_n 3, 1) := by decide +kernel
theorem dL_law__2525 : decode cL_law_ 2525 = .ok (.iconst 0, 1) := by decide +kernel
theorem dL_law__2526 : decode cL_law_ 2526 = .ok (.laload, 1) := by decide +kernel
theorem dL_law__2527 : decode cL_law_ 2527 = .ok (.iload 6, 2) := by decide +kernel
theorem dL_law__2529 : decode cL_law_ 2529 = .ok (.i2l, 1) := by decide +kernel
theorem dL_law__2530 : decode cL_law_ 2530 = .ok (.lcmp, 1) := by decide +kernel
theorem dL_law__2531 : decode cL_law_ 2531 = .ok (.ifCond .eq 5, 3) := by decide +kernel
theorem dL_law__2534 : decode cL_law_ 2534 = .ok (.iconst 0, 1) := by decide +kernel
theorem dL_law__2535 : decode cL_law_ 2535 = .ok (.ireturn, 1) := by decide +kernel
theorem dL_law__2536 : decode cL_law_ 2536 = .ok (.goto 197, 3) := by decide +kernel
theorem dL_law__2539 : decode cL_law_ 2539 = .ok (.aload_n 1, 1) := by decide +kernel
theorem dL_law__2540 : decode cL_law_ 2540 = .ok (.aload_n 0, 1) := by decide +kernel
theorem dL_law__2541 : decode cL_law_ 2541 = .ok (.iload 4, 2) := by decide +kernel
theorem dL_law__2543 : decode cL_law_ 2543 = .ok (.iconst 1, 1) := by decide +kernel
theorem dL_law__2544 : decode cL_law_ 2544 = .ok (.iadd, 1) := by decide +kernel
theorem dL_law__2545 : decode cL_law_ 2545 = .ok (.iaload, 1) := by decide +kernel
theorem dL_law__2546 : decode cL_law_ 2546 = .ok (.aload_n 0, 1) := by decide +kernel
theorem dL_law__2547 : decode cL_law_ 2547 = .ok (.iload 4, 2) := by decide +kernel
theorem dL_law__2549 : decode cL_law_ 2549 = .ok (.iconst 2, 1) := by decide +kernel
theorem dL_law__2550 : decode cL_law_ 2550 = .ok (.iadd, 1) := by decide +kernel
theorem dL_law__2551 : decode cL_law_ 2551 = .ok (.iaload, 1) := by decide +kernel
theorem dL_law__2552 : decode cL_law_ 2552 = .ok (.aload_n 0, 1) := by decide +kernel
theorem dL_law__2553 : decode cL_law_ 2553 = .ok (.iload 4, 2) := by decide +kernel
theorem dL_law__2555 : decode cL_law_ 2555 = .ok (.iconst 3, 1) := by decide +kernel
theorem dL_law__2556 : decode cL_law_ 2556 = .ok (.iadd, 1) := by decide +kernel
theorem dL_law__2557 : decode cL_law_ 2557 = .ok (.iaload, 1) := by decide +kernel
theorem dL_law__2558 : decode cL_law_ 2558 = .ok (.aload_n 0, 1) := by decide +kernel
theorem dL_law__2559 : decode cL_law_ 2559 = .ok (.iload 4, 2) := by decide +kernel
theorem dL_law__2561 : decode cL_law_ 2561 = .ok (.iconst 4, 1) := by decide +kernel
theorem dL_law__2562 : decode cL_law_ 2562 = .ok (.iadd, 1) := by decide +kernel
theorem dL_law__2563 : decode cL_law_ 2563 = .ok (.iaload, 1) := by decide +kernel
theorem dL_law__2564 : decode cL_law_ 2564 = .ok (.aload_n 0, 1) := by decide +kernel
theorem dL_law__2565 : decode cL_law_ 2565 = .ok (.iload 4, 2) := by decide +kernel
theorem dL_law__2567 : decode cL_law_ 2567 = .ok (.iconst 5, 1) := by decide +kernel
theorem dL_law__2568 : decode cL_law_ 2568 = .ok (.iadd, 1) := by decide +kernel
theorem dL_law__2569 : decode cL_law_ 2569 = .ok (.iaload, 1) := by decide +kernel
theorem dL_law__2570 : decode cL_law_ 2570 = .ok (.aload_n 0, 1) := by decide +kernel
theorem dL_law__2571 : decode cL_law_ 2571 = .ok (.iload 4, 2) := by decide +kernel
theorem dL_law__2573 : decode cL_law_ 2573 = .ok (.bipush 6, 2) := by decide +kernel
theorem dL_law__2575 : decode cL_law_ 2575 = .ok (.iadd, 1) := by decide +kernel
theorem dL_law__2576 : decode cL_law_ 2576 = .ok (.iaload, 1) := by decide +kernel
theorem dL_law__2577 : decode cL_law_ 2577 = .ok (.aload_n 3, 1) := by decide +kernel
theorem dL_law__2578 : decode cL_law_ 2578 = .ok (.invokestatic 246, 3) := by decide +kernel
theorem dL_law__2581 : decode cL_law_ 2581 = .ok (.istore 5, 2) := by decide +kernel
theorem dL_law__2583 : decode cL_law_ 2583 = .ok (.aload_n 2, 1) := by decide +kernel
theorem dL_law__2584 : decode cL_law_ 2584 = .ok (.aload_n 0, 1) := by decide +kernel
theorem dL_law__2585 : decode cL_law_ 2585 = .ok (.iload 4, 2) := by decide +kernel
theorem dL_law__2587 : decode cL_law_ 2587 = .ok (.iconst 1, 1) := by decide +kernel
theorem dL_law__2588 : decode cL_law_ 2588 = .ok (.iadd, 1) := by decide +kernel
theorem dL_law__2589 : decode cL_law_ 2589 = .ok (.iaload, 1) := by decide +kernel
theorem dL_law__2590 : decode cL_law_ 2590 = .ok (.aload_n 0, 1) := by decide +kernel
theorem dL_law__2591 : decode cL_law_ 2591 = .ok (.iload 4, 2) := by decide +kernel
theorem dL_law__2593 : decode cL_law_ 2593 = .ok (.iconst 2, 1) := by decide +kernel
theorem dL_law__2594 : decode cL_law_ 2594 = .ok (.iadd, 1) := by decide +kernel
theorem dL_law__2595 : decode cL_law_ 2595 = .ok (.iaload, 1) := by decide +kernel
theorem dL_law__2596 : decode cL_law_ 2596 = .ok (.aload_n 0, 1) := by decide +kernel
theorem dL_law__2597 : decode cL_law_ 2597 = .ok (.iload 4, 2) := by decide +kernel
theorem dL_law__2599 : decode cL_law_ 2599 = .ok (.iconst 3, 1) := by decide +kernel
theorem dL_law__2600 : decode cL_law_ 2600 = .ok (.iadd, 1) := by decide +kernel
theorem dL_law__2601 : decode cL_law_ 2601 = .ok (.iaload, 1) := by decide +kernel
theorem dL_law__2602 : decode cL_law_ 2602 = .ok (.aload_n 0, 1) := by decide +kernel
theorem dL_law__2603 : decode cL_law_ 2603 = .ok (.iload 4, 2) := by decide +kernel
theorem dL_law__2605 : decode cL_law_ 2605 = .ok (.iconst 4, 1) := by decide +kernel
theorem dL_law__2606 : decode cL_law_ 2606 = .ok (.iadd, 1) := by decide +kernel
theorem dL_law__2607 : decode cL_law_ 2607 = .ok (.iaload, 1) := by decide +kernel
theorem dL_law__2608 : decode cL_law_ 2608 = .ok (.aload_n 0, 1) := by decide +kernel
theorem dL_law__2609 : decode cL_law_ 2609 = .ok (.iload 4, 2) := by decide +kernel
theorem dL_law__2611 : decode cL_law_ 2611 = .ok (.iconst 5, 1) := by decide +kernel
theorem dL_law__2612 : decode cL_law_ 2612 = .ok (.iadd, 1) := by decide +kernel
theorem dL_law__2613 : decode cL_law_ 2613 = .ok (.iaload, 1) := by decide +kernel
theorem dL_law__2614 : decode cL_law_ 2614 = .ok (.aload_n 0, 1) := by decide +kernel
theorem dL_law__2615 : decode cL_law_ 2615 = .ok (.iload 4, 2) := by decide +kernel
theorem dL_law__2617 : decode cL_law_ 2617 = .ok (.bipush 6, 2) := by decide +kernel
theorem dL_law__2619 : decode cL_law_ 2619 = .ok (.iadd, 1) := by decide +kernel
theorem dL_law__2620 : decode cL_law_ 2620 = .ok (.iaload, 1) := by decide +kernel
theorem dL_law__2621 : decode cL_law_ 2621 = .ok (.invokevirtual 249, 3) := by decide +kernel
theorem dL_law__2624 : decode cL_law_ 2624 = .ok (.istore 6, 2) := by decide +kernel
theorem dL_law__2626 : decode cL_law_ 2626 = .ok (.aload_n 2, 1) := by decide +kernel
theorem dL_law__2627 : decode cL_law_ 2627 = .ok (.invokevirtual 133, 3) := by decide +kernel
theorem dL_law__2630 : decode cL_law_ 2630 = .ok (.iload 5, 2) := by decide +kernel
theorem dL_law__2632 : decode cL_law_ 2632 = .ok (.if_icmp .eq 5, 3) := by decide +kernel
theorem dL_law__2635 : decode cL_law_ 2635 = .ok (.iconst 0, 1) := by decide +kernel
theorem dL_law__2636 : decode cL_law_ 2636 = .ok (.ireturn, 1) := by decide +kernel
theorem dL_law__2637 : decode cL_law_ 2637 = .ok (.iload 5, 2) := by decide +kernel
theorem dL_law__2639 : decode cL_law_ 2639 = .ok (.ifCond .ne 15, 3) := by decide +kernel
theorem dL_law__2642 : decode cL_law_ 2642 = .ok (.aload_n 3, 1) := by decide +kernel
theorem dL_law__2643 : decode cL_law_ 2643 = .ok (.iconst 0, 1) := by decide +kernel
theorem dL_law__2644 : decode cL_law_ 2644 = .ok (.laload, 1) := by decide +kernel
theorem dL_law__2645 : decode cL_law_ 2645 = .ok (.iload 6, 2) := by decide +kernel
theorem dL_law__2647 : decode cL_law_ 2647 = .ok (.i2l, 1) := by decide +kernel
theorem dL_law__2648 : decode cL_law_ 2648 = .ok (.lcmp, 1) := by decide +kernel
theorem dL_law__2649 : decode cL_law_ 2649 = .ok (.ifCond .eq 5, 3) := by decide +kernel
theorem dL_law__2652 : decode cL_law_ 2652 = .ok (.iconst 0, 1) := by decide +kernel
theorem dL_law__2653 : decode cL_law_ 2653 = .ok (.ireturn, 1) := by decide +kernel
theorem dL_law__2654 : decode cL_law_ 2654 = .ok (.goto 79, 3) := by decide +kernel
theorem dL_law__2657 : decode cL_law_ 2657 = .ok (.aload_n 1, 1) := by decide +kernel
theorem dL_law__2658 : decode cL_law_ 2658 = .ok (.invokevirtual 250, 3) := by decide +kernel
theorem dL_law__2661 : decode cL_law_ 2661 = .ok (.aload_n 2, 1) := by decide +kernel
theorem dL_law__2662 : decode cL_law_ 2662 = .ok (.invokevirtual 253, 3) := by decide +kernel
theorem dL_law__2665 : decode cL_law_ 2665 = .ok (.if_icmp .eq 68, 3) := by decide +kernel
theorem dL_law__2668 : decode cL_law_ 2668 = .ok (.iconst 0, 1) := by decide +kernel
theorem dL_law__2669 : decode cL_law_ 2669 = .ok (.ireturn, 1) := by decide +kernel
theorem dL_law__2670 : decode cL_law_ 2670 = .ok (.aload_n 1, 1) := by decide +kernel
theorem dL_law__2671 : decode cL_law_ 2671 = .ok (.invokevirtual 254, 3) := by decide +kernel
theorem dL_law__2674 : decode cL_law_ 2674 = .ok (.aload_n 2, 1) := by decide +kernel
theorem dL_law__2675 : decode cL_law_ 2675 = .ok (.invokevirtual 257, 3) := by decide +kernel
theorem dL_law__2678 : decode cL_law_ 2678 = .ok (.if_icmp .eq 55, 3) := by decide +kernel
theorem dL_law__2681 : decode cL_law_ 2681 = .ok (.iconst 0, 1) := by decide +kernel
theorem dL_law__2682 : decode cL_law_ 2682 = .ok (.ireturn, 1) := by decide +kernel
theorem dL_law__2683 : decode cL_law_ 2683 = .ok (.aload_n 1, 1) := by decide +kernel
theorem dL_law__2684 : decode cL_law_ 2684 = .ok (.aload_n 0, 1) := by decide +kernel
theorem dL_law__2685 : decode cL_law_ 2685 = .ok (.iload 4, 2) := by decide +kernel
theorem dL_law__2687 : decode cL_law_ 2687 = .ok (.iconst 1, 1) := by decide +kernel
theorem dL_law__2688 : decode cL_law_ 2688 = .ok (.iadd, 1) := by decide +kernel
theorem dL_law__2689 : decode cL_law_ 2689 = .ok (.iaload, 1) := by decide +kernel
theorem dL_law__2690 : decode cL_law_ 2690 = .ok (.invokevirtual 258, 3) := by decide +kernel
theorem dL_law__2693 : decode cL_law_ 2693 = .ok (.aload_n 2, 1) := by decide +kernel
theorem dL_law__2694 : decode cL_law_ 2694 = .ok (.aload_n 0, 1) := by decide +kernel
theorem dL_law__2695 : decode cL_law_ 2695 = .ok (.iload 4, 2) := by decide +kernel
theorem dL_law__2697 : decode cL_law_ 2697 = .ok (.iconst 1, 1) := by decide +kernel
theorem dL_law__2698 : decode cL_law_ 2698 = .ok (.iadd, 1) := by decide +kernel
theorem dL_law__2699 : decode cL_law_ 2699 = .ok (.iaload, 1) := by decide +kernel
theorem dL_law__2700 : decode cL_law_ 2700 = .ok (.invokevirtual 261, 3) := by decide +kernel
theorem dL_law__2703 : decode cL_law_ 2703 = .ok (.if_icmp .eq 30, 3) := by decide +kernel
theorem dL_law__2706 : decode cL_law_ 2706 = .ok (.iconst 0, 1) := by decide +kernel
theorem dL_law__2707 : decode cL_law_ 2707 = .ok (.ireturn, 1) := by decide +kernel
theorem dL_law__2708 : decode cL_law_ 2708 = .ok (.aload_n 1, 1) := by decide +kernel
theorem dL_law__2709 : decode cL_law_ 2709 = .ok (.aload_n 0, 1) := by decide +kernel
theorem dL_law__2710 : decode cL_law_ 2710 = .ok (.iload 4, 2) := by decide +kernel
theorem dL_law__2712 : decode cL_law_ 2712 = .ok (.iconst 1, 1) := by decide +kernel
theorem dL_law__2713 : decode cL_law_ 2713 = .ok (.iadd, 1) := by decide +kernel
theorem dL_law__2714 : decode cL_law_ 2714 = .ok (.iaload, 1) := by decide +kernel
theorem dL_law__2715 : decode cL_law_ 2715 = .ok (.invokevirtual 262, 3) := by decide +kernel
theorem dL_law__2718 : decode cL_law_ 2718 = .ok (.aload_n 2, 1) := by decide +kernel
theorem dL_law__2719 : decode cL_law_ 2719 = .ok (.aload_n 0, 1) := by decide +kernel
theorem dL_law__2720 : decode cL_law_ 2720 = .ok (.iload 4, 2) := by decide +kernel
theorem dL_law__2722 : decode cL_law_ 2722 = .ok (.iconst 1, 1) := by decide +kernel
theorem dL_law__2723 : decode cL_law_ 2723 = .ok (.iadd, 1) := by decide +kernel
theorem dL_law__2724 : decode cL_law_ 2724 = .ok (.iaload, 1) := by decide +kernel
theorem dL_law__2725 : decode cL_law_ 2725 = .ok (.invokevirtual 265, 3) := by decide +kernel
theorem dL_law__2728 : decode cL_law_ 2728 = .ok (.if_icmp .eq 5, 3) := by decide +kernel
theorem dL_law__2731 : decode cL_law_ 2731 = .ok (.iconst 0, 1) := by decide +kernel
theorem dL_law__2732 : decode cL_law_ 2732 = .ok (.ireturn, 1) := by decide +kernel
theorem dL_law__2733 : decode cL_law_ 2733 = .ok (.iinc 4 7, 3) := by decide +kernel
theorem dL_law__2736 : decode cL_law_ 2736 = .ok (.goto (-2713), 3) := by decide +kernel
theorem dL_law__2739 : decode cL_law_ 2739 = .ok (.iconst 1, 1) := by decide +kernel
theorem dL_law__2740 : decode cL_law_ 2740 = .ok (.ireturn, 1) := by decide +kernel
