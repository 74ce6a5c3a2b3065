theorem dL_street_0 : decode cL_street 0 = .ok (.aload_n 2, 1) := by decide +kernel
theorem dL_street_1 : decode cL_street 1 = .ok (.iconst 0, 1) := by decide +kernel
theorem dL_street_2 : decode cL_street 2 = .ok (.aload_n 0, 1) := by decide +kernel
theorem dL_street_3 : decode cL_street 3 = .ok (.iload_n 1, 1) := by decide +kernel
theorem dL_street_4 : decode cL_street 4 = .ok (.invokevirtual 7, 3) := by decide +kernel
theorem dL_street_7 : decode cL_street 7 = .ok (.i2l, 1) := by decide +kernel
theorem dL_street_8 : decode cL_street 8 = .ok (.lastore, 1) := by decide +kernel
theorem dL_street_9 : decode cL_street 9 = .ok (.goto 6, 3) := by decide +kernel
theorem dL_street_12 : decode cL_street 12 = .ok (.astore_n 3, 1) := by decide +kernel
theorem dL_street_13 : decode cL_street 13 = .ok (.iconst 1, 1) := by decide +kernel
theorem dL_street_14 : decode cL_street 14 = .ok (.ireturn, 1) := by decide +kernel
theorem dL_street_15 : decode cL_street 15 = .ok (.iconst 0, 1) := by decide +kernel
theorem dL_street_16 : decode cL_street 16 = .ok (.ireturn, 1) := by decide +kernel
theorem dL_law_0 : decode cL_law 0 = .ok (.aload_n 2, 1) := by decide +kernel
theorem dL_law_1 : decode cL_law 1 = .ok (.iconst 0, 1) := by decide +kernel
theorem dL_law_2 : decode cL_law 2 = .ok (.aload_n 0, 1) := by decide +kernel
theorem dL_law_3 : decode cL_law 3 = .ok (.iload_n 1, 1) := by decide +kernel
theorem dL_law_4 : decode cL_law 4 = .ok (.invokevirtual 15, 3) := by decide +kernel
theorem dL_law_7 : decode cL_law 7 = .ok (.i2l, 1) := by decide +kernel
theorem dL_law_8 : decode cL_law 8 = .ok (.lastore, 1) := by decide +kernel
theorem dL_law_9 : decode cL_law 9 = .ok (.goto 6, 3) := by decide +kernel
theorem dL_law_12 : decode cL_law 12 = .ok (.astore_n 3, 1) := by decide +kernel
theorem dL_law_13 : decode cL_law 13 = .ok (.iconst 1, 1) := by decide +kernel
theorem dL_law_14 : decode cL_law 14 = .ok (.ireturn, 1) := by decide +kernel
theorem dL_law_15 : decode cL_law 15 = .ok (.iconst 0, 1) := by decide +kernel
theorem dL_law_16 : decode cL_law 16 = .ok (.ireturn, 1) := by decide +kernel
theorem dL_work_0 : decode cL_work 0 = .ok (.aload_n 2, 1) := by decide +kernel
theorem dL_work_1 : decode cL_work 1 = .ok (.iconst 0, 1) := by decide +kernel
theorem dL_work_2 : decode cL_work 2 = .ok (.aload_n 0, 1) := by decide +kernel
theorem dL_work_3 : decode cL_work 3 = .ok (.iload_n 1, 1) := by decide +kernel
theorem dL_work_4 : decode cL_work 4 = .ok (.invokevirtual 18, 3) := by decide +kernel
theorem dL_work_7 : decode cL_work 7 = .ok (.i2l, 1) := by decide +kernel
theorem dL_work_8 : decode cL_work 8 = .ok (.lastore, 1) := by decide +kernel
theorem dL_work_9 : decode cL_work 9 = .ok (.goto 6, 3) := by decide +kernel
theorem dL_work_12 : decode cL_work 12 = .ok (.astore_n 3, 1) := by decide +kernel
theorem dL_work_13 : decode cL_work 13 = .ok (.iconst 1, 1) := by decide +kernel
theorem dL_work_14 : decode cL_work 14 = .ok (.ireturn, 1) := by decide +kernel
theorem dL_work_15 : decode cL_work 15 = .ok (.iconst 0, 1) := by decide +kernel
theorem dL_work_16 : decode cL_work 16 = .ok (.ireturn, 1) := by decide +kernel
theorem dL_book_0 : decode cL_book 0 = .ok (.aload_n 2, 1) := by decide +kernel
theorem dL_book_1 : decode cL_book 1 = .ok (.iconst 0, 1) := by decide +kernel
theorem dL_book_2 : decode cL_book 2 = .ok (.aload_n 0, 1) := by decide +kernel
theorem dL_book_3 : decode cL_book 3 = .ok (.iload_n 1, 1) := by decide +kernel
theorem dL_book_4 : decode cL_book 4 = .ok (.invokevirtual 21, 3) := by decide +kernel
theorem dL_book_7 : decode cL_book 7 = .ok (.i2l, 1) := by decide +kernel
theorem dL_book_8 : decode cL_book 8 = .ok (.lastore, 1) := by decide +kernel
theorem dL_book_9 : decode cL_book 9 = .ok (.goto 6, 3) := by decide +kernel
theorem dL_book_12 : decode cL_book 12 = .ok (.astore_n 3, 1) := by decide +kernel
theorem dL_book_13 : decode cL_book 13 = .ok (.iconst 1, 1) := by decide +kernel
theorem dL_book_14 : decode cL_book 14 = .ok (.ireturn, 1) := by decide +kernel
theorem dL_book_15 : decode cL_book 15 = .ok (.iconst 0, 1) := by decide +kernel
theorem dL_book_16 : decode cL_book 16 = .ok (.ireturn, 1) := by decide +kernel
theorem dL_told_0 : decode cL_told 0 = .ok (.aload_n 2, 1) := by decide +kernel
theorem dL_told_1 : decode cL_told 1 = .ok (.iconst 0, 1) := by decide +kernel
theorem dL_told_2 : decode cL_told 2 = .ok (.aload_n 0, 1) := by decide +kernel
theorem dL_told_3 : decode cL_told 3 = .ok (.iload_n 1, 1) := by decide +kernel
theorem dL_told_4 : decode cL_told 4 = .ok (.invokevirtual 24, 3) := by decide +kernel
theorem dL_told_7 : decode cL_told 7 = .ok (.i2l, 1) := by decide +kernel
theorem dL_told_8 : decode cL_told 8 = .ok (.lastore, 1) := by decide +kernel
theorem dL_told_9 : decode cL_told 9 = .ok (.goto 6, 3) := by decide +kernel
theorem dL_told_12 : decode cL_told 12 = .ok (.astore_n 3, 1) := by decide +kernel
theorem dL_told_13 : decode cL_told 13 = .ok (.iconst 1, 1) := by decide +kernel
theorem dL_told_14 : decode cL_told 14 = .ok (.ireturn, 1) := by decide +kernel
theorem dL_told_15 : decode cL_told 15 = .ok (.iconst 0, 1) := by decide +kernel
theorem dL_told_16 : decode cL_told 16 = .ok (.ireturn, 1) := by decide +kernel
theorem dL_pane_0 : decode cL_pane 0 = .ok (.aload_n 3, 1) := by decide +kernel
theorem dL_pane_1 : decode cL_pane 1 = .ok (.iconst 0, 1) := by decide +kernel
theorem dL_pane_2 : decode cL_pane 2 = .ok (.aload_n 0, 1) := by decide +kernel
theorem dL_pane_3 : decode cL_pane 3 = .ok (.iload_n 1, 1) := by decide +kernel
theorem dL_pane_4 : decode cL_pane 4 = .ok (.iload_n 2, 1) := by decide +kernel
theorem dL_pane_5 : decode cL_pane 5 = .ok (.invokevirtual 27, 3) := by decide +kernel
theorem dL_pane_8 : decode cL_pane 8 = .ok (.i2l, 1) := by decide +kernel
theorem dL_pane_9 : decode cL_pane 9 = .ok (.lastore, 1) := by decide +kernel
theorem dL_pane_10 : decode cL_pane 10 = .ok (.goto 11, 3) := by decide +kernel
theorem dL_pane_13 : decode cL_pane 13 = .ok (.astore 4, 2) := by decide +kernel
theorem dL_pane_15 : decode cL_pane 15 = .ok (.iconst 1, 1) := by decide +kernel
theorem dL_pane_16 : decode cL_pane 16 = .ok (.ireturn, 1) := by decide +kernel
theorem dL_pane_17 : decode cL_pane 17 = .ok (.astore 4, 2) := by decide +kernel
theorem dL_pane_19 : decode cL_pane 19 = .ok (.iconst 2, 1) := by decide +kernel
theorem dL_pane_20 : decode cL_pane 20 = .ok (.ireturn, 1) := by decide +kernel
theorem dL_pane_21 : decode cL_pane 21 = .ok (.iconst 0, 1) := by decide +kernel
theorem dL_pane_22 : decode cL_pane 22 = .ok (.ireturn, 1) := by decide +kernel
theorem dL_shows_0 : decode cL_shows 0 = .ok (.aload 4, 2) := by decide +kernel
theorem dL_shows_2 : decode cL_shows 2 = .ok (.iconst 0, 1) := by decide +kernel
theorem dL_shows_3 : decode cL_shows 3 = .ok (.aload_n 0, 1) := by decide +kernel
theorem dL_shows_4 : decode cL_shows 4 = .ok (.iload_n 1, 1) := by decide +kernel
theorem dL_shows_5 : decode cL_shows 5 = .ok (.iload_n 2, 1) := by decide +kernel
theorem dL_shows_6 : decode cL_shows 6 = .ok (.iload_n 3, 1) := by decide +kernel
theorem dL_shows_7 : decode cL_shows 7 = .ok (.invokevirtual 33, 3) := by decide +kernel
theorem dL_shows_10 : decode cL_shows 10 = .ok (.i2l, 1) := by decide +kernel
theorem dL_shows_11 : decode cL_shows 11 = .ok (.lastore, 1) := by decide +kernel
theorem dL_shows_12 : decode cL_shows 12 = .ok (.goto 11, 3) := by decide +kernel
theorem dL_shows_15 : decode cL_shows 15 = .ok (.astore 5, 2) := by decide +kernel
theorem dL_shows_17 : decode cL_shows 17 = .ok (.iconst 1, 1) := by decide +kernel
theorem dL_shows_18 : decode cL_shows 18 = .ok (.ireturn, 1) := by decide +kernel
theorem dL_shows_19 : decode cL_shows 19 = .ok (.astore 5, 2) := by decide +kernel
theorem dL_shows_21 : decode cL_shows 21 = .ok (.iconst 2, 1) := by decide +kernel
theorem dL_shows_22 : decode cL_shows 22 = .ok (.ireturn, 1) := by decide +kernel
theorem dL_shows_23 : decode cL_shows 23 = .ok (.iconst 0, 1) := by decide +kernel
theorem dL_shows_24 : decode cL_shows 24 = .ok (.ireturn, 1) := by decide +kernel
theorem dL_deep_0 : decode cL_deep 0 = .ok (.aload 4, 2) := by decide +kernel
theorem dL_deep_2 : decode cL_deep 2 = .ok (.iconst 0, 1) := by decide +kernel
theorem dL_deep_3 : decode cL_deep 3 = .ok (.aload_n 0, 1) := by decide +kernel
theorem dL_deep_4 : decode cL_deep 4 = .ok (.iload_n 1, 1) := by decide +kernel
theorem dL_deep_5 : decode cL_deep 5 = .ok (.iload_n 2, 1) := by decide +kernel
theorem dL_deep_6 : decode cL_deep 6 = .ok (.iload_n 3, 1) := by decide +kernel
theorem dL_deep_7 : decode cL_deep 7 = .ok (.invokevirtual 39, 3) := by decide +kernel
theorem dL_deep_10 : decode cL_deep 10 = .ok (.i2l, 1) := by decide +kernel
theorem dL_deep_11 : decode cL_deep 11 = .ok (.lastore, 1) := by decide +kernel
theorem dL_deep_12 : decode cL_deep 12 = .ok (.goto 11, 3) := by decide +kernel
theorem dL_deep_15 : decode cL_deep 15 = .ok (.astore 5, 2) := by decide +kernel
theorem dL_deep_17 : decode cL_deep 17 = .ok (.iconst 1, 1) := by decide +kernel
theorem dL_deep_18 : decode cL_deep 18 = .ok (.ireturn, 1) := by decide +kernel
theorem dL_deep_19 : decode cL_deep 19 = .ok (.astore 5, 2) := by decide +kernel
theorem dL_deep_21 : decode cL_deep 21 = .ok (.iconst 2, 1) := by decide +kernel
theorem dL_deep_22 : decode cL_deep 22 = .ok (.ireturn, 1) := by decide +kernel
theorem dL_deep_23 : decode cL_deep 23 = .ok (.iconst 0, 1) := by decide +kernel
theorem dL_deep_24 : decode cL_deep 24 = .ok (.ireturn, 1) := by decide +kernel
theorem dL_film_0 : decode cL_film 0 = .ok (.aload 5, 2) := by decide +kernel
theorem dL_film_2 : decode cL_film 2 = .ok (.iconst 0, 1) := by decide +kernel
theorem dL_film_3 : decode cL_film 3 = .ok (.aload_n 0, 1) := by decide +kernel
theorem dL_film_4 : decode cL_film 4 = .ok (.iload_n 1, 1) := by decide +kernel
theorem dL_film_5 : decode cL_film 5 = .ok (.iload_n 2, 1) := by decide +kernel
theorem dL_film_6 : decode cL_film 6 = .ok (.iload_n 3, 1) := by decide +kernel
theorem dL_film_7 : decode cL_film 7 = .ok (.iload 4, 2) := by decide +kernel
theorem dL_film_9 : decode cL_film 9 = .ok (.invokevirtual 42, 3) := by decide +kernel
theorem dL_film_12 : decode cL_film 12 = .ok (.i2l, 1) := by decide +kernel
theorem dL_film_13 : decode cL_film 13 = .ok (.lastore, 1) := by decide +kernel
theorem dL_film_14 : decode cL_film 14 = .ok (.goto 11, 3) := by decide +kernel
theorem dL_film_17 : decode cL_film 17 = .ok (.astore 6, 2) := by decide +kernel
theorem dL_film_19 : decode cL_film 19 = .ok (.iconst 1, 1) := by decide +kernel
theorem dL_film_20 : decode cL_film 20 = .ok (.ireturn, 1) := by decide +kernel
theorem dL_film_21 : decode cL_film 21 = .ok (.astore 6, 2) := by decide +kernel
theorem dL_film_23 : decode cL_film 23 = .ok (.iconst 2, 1) := by decide +kernel
theorem dL_film_24 : decode cL_film 24 = .ok (.ireturn, 1) := by decide +kernel
theorem dL_film_25 : decode cL_film 25 = .ok (.iconst 0, 1) := by decide +kernel
theorem dL_film_26 : decode cL_film 26 = .ok (.ireturn, 1) := by decide +kernel
theorem dL_films_0 : decode cL_films 0 = .ok (.aload_n 3, 1) := by decide +kernel
theorem dL_films_1 : decode cL_films 1 = .ok (.iconst 0, 1) := by decide +kernel
theorem dL_films_2 : decode cL_films 2 = .ok (.aload_n 0, 1) := by decide +kernel
theorem dL_films_3 : decode cL_films 3 = .ok (.iload_n 1, 1) := by decide +kernel
theorem dL_films_4 : decode cL_films 4 = .ok (.iload_n 2, 1) := by decide +kernel
theorem dL_films_5 : decode cL_films 5 = .ok (.invokevirtual 46, 3) := by decide +kernel
theorem dL_films_8 : decode cL_films 8 = .ok (.i2l, 1) := by decide +kernel
theorem dL_films_9 : decode cL_films 9 = .ok (.lastore, 1) := by decide +kernel
theorem dL_films_10 : decode cL_films 10 = .ok (.goto 7, 3) := by decide +kernel
theorem dL_films_13 : decode cL_films 13 = .ok (.astore 4, 2) := by decide +kernel
theorem dL_films_15 : decode cL_films 15 = .ok (.iconst 1, 1) := by decide +kernel
theorem dL_films_16 : decode cL_films 16 = .ok (.ireturn, 1) := by decide +kernel
theorem dL_films_17 : decode cL_films 17 = .ok (.iconst 0, 1) := by decide +kernel
theorem dL_films_18 : decode cL_films 18 = .ok (.ireturn, 1) := by decide +kernel
theorem dL_have_0 : decode cL_have 0 = .ok (.aload_n 3, 1) := by decide +kernel
theorem dL_have_1 : decode cL_have 1 = .ok (.iconst 0, 1) := by decide +kernel
theorem dL_have_2 : decode cL_have 2 = .ok (.aload_n 0, 1) := by decide +kernel
theorem dL_have_3 : decode cL_have 3 = .ok (.iload_n 1, 1) := by decide +kernel
theorem dL_have_4 : decode cL_have 4 = .ok (.iload_n 2, 1) := by decide +kernel
theorem dL_have_5 : decode cL_have 5 = .ok (.invokevirtual 49, 3) := by decide +kernel
theorem dL_have_8 : decode cL_have 8 = .ok (.i2l, 1) := by decide +kernel
theorem dL_have_9 : decode cL_have 9 = .ok (.lastore, 1) := by decide +kernel
theorem dL_have_10 : decode cL_have 10 = .ok (.goto 11, 3) := by decide +kernel
theorem dL_have_13 : decode cL_have 13 = .ok (.astore 4, 2) := by decide +kernel
theorem dL_have_15 : decode cL_have 15 = .ok (.iconst 1, 1) := by decide +kernel
theorem dL_have_16 : decode cL_have 16 = .ok (.ireturn, 1) := by decide +kernel
theorem dL_have_17 : decode cL_have 17 = .ok (.astore 4, 2) := by decide +kernel
theorem dL_have_19 : decode cL_have 19 = .ok (.iconst 2, 1) := by decide +kernel
theorem dL_have_20 : decode cL_have 20 = .ok (.ireturn, 1) := by decide +kernel
theorem dL_have_21 : decode cL_have 21 = .ok (.iconst 0, 1) := by decide +kernel
theorem dL_have_22 : decode cL_have 22 = .ok (.ireturn, 1) := by decide +kernel
theorem dL_showing_0 : decode cL_showing 0 = .ok (.aload_n 3, 1) := by decide +kernel
theorem dL_showing_1 : decode cL_showing 1 = .ok (.iconst 0, 1) := by decide +kernel
theorem dL_showing_2 : decode cL_showing 2 = .ok (.aload_n 0, 1) := by decide +kernel
theorem dL_showing_3 : decode cL_showing 3 = .ok (.iload_n 1, 1) := by decide +kernel
theorem dL_showing_4 : decode cL_showing 4 = .ok (.iload_n 2, 1) := by decide +kernel
theorem dL_showing_5 : decode cL_showing 5 = .ok (.invokevirtual 52, 3) := by decide +kernel
theorem dL_showing_8 : decode cL_showing 8 = .ok (.i2l, 1) := by decide +kernel
theorem dL_showing_9 : decode cL_showing 9 = .ok (.lastore, 1) := by decide +kernel
theorem dL_showing_10 : decode cL_showing 10 = .ok (.goto 11, 3) := by decide +kernel
theorem dL_showing_13 : decode cL_showing 13 = .ok (.astore 4, 2) := by decide +kernel
theorem dL_showing_15 : decode cL_showing 15 = .ok (.iconst 1, 1) := by decide +kernel
theorem dL_showing_16 : decode cL_showing 16 = .ok (.ireturn, 1) := by decide +kernel
theorem dL_showing_17 : decode cL_showing 17 = .ok (.astore 4, 2) := by decide +kernel
theorem dL_showing_19 : decode cL_showing 19 = .ok (.iconst 2, 1) := by decide +kernel
theorem dL_showing_20 : decode cL_showing 20 = .ok (.ireturn, 1) := by decide +kernel
theorem dL_showing_21 : decode cL_showing 21 = .ok (.iconst 0, 1) := by decide +kernel
theorem dL_showing_22 : decode cL_showing 22 = .ok (.ireturn, 1) := by decide +kernel
theorem dL_settles_0 : decode cL_settles 0 = .ok (.aload 4, 2) := by decide +kernel
theorem dL_settles_2 : decode cL_settles 2 = .ok (.iconst 0, 1) := by decide +kernel
theorem dL_settles_3 : decode cL_settles 3 = .ok (.aload_n 0, 1) := by decide +kernel
theorem dL_settles_4 : decode cL_settles 4 = .ok (.iload_n 1, 1) := by decide +kernel
theorem dL_settles_5 : decode cL_settles 5 = .ok (.iload_n 2, 1) := by decide +kernel
theorem dL_settles_6 : decode cL_settles 6 = .ok (.iload_n 3, 1) := by decide +kernel
theorem dL_settles_7 : decode cL_settles 7 = .ok (.invokevirtual 55, 3) := by decide +kernel
theorem dL_settles_10 : decode cL_settles 10 = .ok (.ifCond .eq 7, 3) := by decide +kernel
theorem dL_settles_13 : decode cL_settles 13 = .ok (.lconst 1, 1) := by decide +kernel
theorem dL_settles_14 : decode cL_settles 14 = .ok (.goto 4, 3) := by decide +kernel
theorem dL_settles_17 : decode cL_settles 17 = .ok (.lconst 0, 1) := by decide +kernel
theorem dL_settles_18 : decode cL_settles 18 = .ok (.lastore, 1) := by decide +kernel
theorem dL_settles_19 : decode cL_settles 19 = .ok (.goto 11, 3) := by decide +kernel
theorem dL_settles_22 : decode cL_settles 22 = .ok (.astore 5, 2) := by decide +kernel
theorem dL_settles_24 : decode cL_settles 24 = .ok (.iconst 1, 1) := by decide +kernel
theorem dL_settles_25 : decode cL_settles 25 = .ok (.ireturn, 1) := by decide +kernel
theorem dL_settles_26 : decode cL_settles 26 = .ok (.astore 5, 2) := by decide +kernel
theorem dL_settles_28 : decode cL_settles 28 = .ok (.iconst 2, 1) := by decide +kernel
theorem dL_settles_29 : decode cL_settles 29 = .ok (.ireturn, 1) := by decide +kernel
theorem dL_settles_30 : decode cL_settles 30 = .ok (.iconst 0, 1) := by decide +kernel
theorem dL_settles_31 : decode cL_settles 31 = .ok (.ireturn, 1) := by decide +kernel
theorem dL_order_0 : decode cL_order 0 = .ok (.aload_n 3, 1) := by decide +kernel
theorem dL_order_1 : decode cL_order 1 = .ok (.iconst 0, 1) := by decide +kernel
theorem dL_order_2 : decode cL_order 2 = .ok (.aload_n 0, 1) := by decide +kernel
theorem dL_order_3 : decode cL_order 3 = .ok (.iload_n 1, 1) := by decide +kernel
theorem dL_order_4 : decode cL_order 4 = .ok (.iload_n 2, 1) := by decide +kernel
theorem dL_order_5 : decode cL_order 5 = .ok (.invokevirtual 59, 3) := by decide +kernel
theorem dL_order_8 : decode cL_order 8 = .ok (.i2l, 1) := by decide +kernel
theorem dL_order_9 : decode cL_order 9 = .ok (.lastore, 1) := by decide +kernel
theorem dL_order_10 : decode cL_order 10 = .ok (.goto 11, 3) := by decide +kernel
theorem dL_order_13 : decode cL_order 13 = .ok (.astore 4, 2) := by decide +kernel
theorem dL_order_15 : decode cL_order 15 = .ok (.iconst 1, 1) := by decide +kernel
theorem dL_order_16 : decode cL_order 16 = .ok (.ireturn, 1) := by decide +kernel
theorem dL_order_17 : decode cL_order 17 = .ok (.astore 4, 2) := by decide +kernel
theorem dL_order_19 : decode cL_order 19 = .ok (.iconst 2, 1) := by decide +kernel
theorem dL_order_20 : decode cL_order 20 = .ok (.ireturn, 1) := by decide +kernel
theorem dL_order_21 : decode cL_order 21 = .ok (.iconst 0, 1) := by decide +kernel
theorem dL_order_22 : decode cL_order 22 = .ok (.ireturn, 1) := by decide +kernel
theorem dL_needs_0 : decode cL_needs 0 = .ok (.aload_n 2, 1) := by decide +kernel
theorem dL_needs_1 : decode cL_needs 1 = .ok (.iconst 0, 1) := by decide +kernel
theorem dL_needs_2 : decode cL_needs 2 = .ok (.aload_n 0, 1) := by decide +kernel
theorem dL_needs_3 : decode cL_needs 3 = .ok (.iload_n 1, 1) := by decide +kernel
theorem dL_needs_4 : decode cL_needs 4 = .ok (.invokevirtual 62, 3) := by decide +kernel
theorem dL_needs_7 : decode cL_needs 7 = .ok (.i2l, 1) := by decide +kernel
theorem dL_needs_8 : decode cL_needs 8 = .ok (.lastore, 1) := by decide +kernel
theorem dL_needs_9 : decode cL_needs 9 = .ok (.goto 6, 3) := by decide +kernel
theorem dL_needs_12 : decode cL_needs 12 = .ok (.astore_n 3, 1) := by decide +kernel
theorem dL_needs_13 : decode cL_needs 13 = .ok (.iconst 1, 1) := by decide +kernel
theorem dL_needs_14 : decode cL_needs 14 = .ok (.ireturn, 1) := by decide +kernel
theorem dL_needs_15 : decode cL_needs 15 = .ok (.iconst 0, 1) := by decide +kernel
theorem dL_needs_16 : decode cL_needs 16 = .ok (.ireturn, 1) := by decide +kernel
theorem dL_cost_0 : decode cL_cost 0 = .ok (.aload 4, 2) := by decide +kernel
theorem dL_cost_2 : decode cL_cost 2 = .ok (.iconst 0, 1) := by decide +kernel
theorem dL_cost_3 : decode cL_cost 3 = .ok (.aload_n 0, 1) := by decide +kernel
theorem dL_cost_4 : decode cL_cost 4 = .ok (.iload_n 1, 1) := by decide +kernel
theorem dL_cost_5 : decode cL_cost 5 = .ok (.iload_n 2, 1) := by decide +kernel
theorem dL_cost_6 : decode cL_cost 6 = .ok (.iload_n 3, 1) := by decide +kernel
theorem dL_cost_7 : decode cL_cost 7 = .ok (.invokevirtual 65, 3) := by decide +kernel
theorem dL_cost_10 : decode cL_cost 10 = .ok (.i2l, 1) := by decide +kernel
theorem dL_cost_11 : decode cL_cost 11 = .ok (.lastore, 1) := by decide +kernel
theorem dL_cost_12 : decode cL_cost 12 = .ok (.goto 11, 3) := by decide +kernel
theorem dL_cost_15 : decode cL_cost 15 = .ok (.astore 5, 2) := by decide +kernel
theorem dL_cost_17 : decode cL_cost 17 = .ok (.iconst 1, 1) := by decide +kernel
theorem dL_cost_18 : decode cL_cost 18 = .ok (.ireturn, 1) := by decide +kernel
theorem dL_cost_19 : decode cL_cost 19 = .ok (.astore 5, 2) := by decide +kernel
theorem dL_cost_21 : decode cL_cost 21 = .ok (.iconst 2, 1) := by decide +kernel
theorem dL_cost_22 : decode cL_cost 22 = .ok (.ireturn, 1) := by decide +kernel
theorem dL_cost_23 : decode cL_cost 23 = .ok (.iconst 0, 1) := by decide +kernel
theorem dL_cost_24 : decode cL_cost 24 = .ok (.ireturn, 1) := by decide +kernel
theorem dL_view_0 : decode cL_view 0 = .ok (.aload 4, 2) := by decide +kernel
theorem dL_view_2 : decode cL_view 2 = .ok (.iconst 0, 1) := by decide +kernel
theorem dL_view_3 : decode cL_view 3 = .ok (.aload_n 0, 1) := by decide +kernel
theorem dL_view_4 : decode cL_view 4 = .ok (.iload_n 1, 1) := by decide +kernel
theorem dL_view_5 : decode cL_view 5 = .ok (.iload_n 2, 1) := by decide +kernel
theorem dL_view_6 : decode cL_view 6 = .ok (.iload_n 3, 1) := by decide +kernel
theorem dL_view_7 : decode cL_view 7 = .ok (.invokevirtual 68, 3) := by decide +kernel
theorem dL_view_10 : decode cL_view 10 = .ok (.i2l, 1) := by decide +kernel
theorem dL_view_11 : decode cL_view 11 = .ok (.lastore, 1) := by decide +kernel
theorem dL_view_12 : decode cL_view 12 = .ok (.goto 11, 3) := by decide +kernel
theorem dL_view_15 : decode cL_view 15 = .ok (.astore 5, 2) := by decide +kernel
theorem dL_view_17 : decode cL_view 17 = .ok (.iconst 1, 1) := by decide +kernel
theorem dL_view_18 : decode cL_view 18 = .ok (.ireturn, 1) := by decide +kernel
theorem dL_view_19 : decode cL_view 19 = .ok (.astore 5, 2) := by decide +kernel
theorem dL_view_21 : decode cL_view 21 = .ok (.iconst 2, 1) := by decide +kernel
theorem dL_view_22 : decode cL_view 22 = .ok (.ireturn, 1) := by decide +kernel
theorem dL_view_23 : decode cL_view 23 = .ok (.iconst 0, 1) := by decide +kernel
theorem dL_view_24 : decode cL_view 24 = .ok (.ireturn, 1) := by decide +kernel
theorem dL_seams_0 : decode cL_seams 0 = .ok (.aload_n 2, 1) := by decide +kernel
theorem dL_seams_1 : decode cL_seams 1 = .ok (.iconst 0, 1) := by decide +kernel
theorem dL_seams_2 : decode cL_seams 2 = .ok (.aload_n 0, 1) := by decide +kernel
theorem dL_seams_3 : decode cL_seams 3 = .ok (.iload_n 1, 1) := by decide +kernel
theorem dL_seams_4 : decode cL_seams 4 = .ok (.invokevirtual 71, 3) := by decide +kernel
theorem dL_seams_7 : decode cL_seams 7 = .ok (.i2l, 1) := by decide +kernel
theorem dL_seams_8 : decode cL_seams 8 = .ok (.lastore, 1) := by decide +kernel
theorem dL_seams_9 : decode cL_seams 9 = .ok (.goto 6, 3) := by decide +kernel
theorem dL_seams_12 : decode cL_seams 12 = .ok (.astore_n 3, 1) := by decide +kernel
theorem dL_seams_13 : decode cL_seams 13 = .ok (.iconst 1, 1) := by decide +kernel
theorem dL_seams_14 : decode cL_seams 14 = .ok (.ireturn, 1) := by decide +kernel
theorem dL_seams_15 : decode cL_seams 15 = .ok (.iconst 0, 1) := by decide +kernel
theorem dL_seams_16 : decode cL_seams 16 = .ok (.ireturn, 1) := by decide +kernel
theorem dL_sights_0 : decode cL_sights 0 = .ok (.aload_n 2, 1) := by decide +kernel
theorem dL_sights_1 : decode cL_sights 1 = .ok (.iconst 0, 1) := by decide +kernel
theorem dL_sights_2 : decode cL_sights 2 = .ok (.aload_n 0, 1) := by decide +kernel
theorem dL_sights_3 : decode cL_sights 3 = .ok (.iload_n 1, 1) := by decide +kernel
theorem dL_sights_4 : decode cL_sights 4 = .ok (.invokevirtual 74, 3) := by decide +kernel
theorem dL_sights_7 : decode cL_sights 7 = .ok (.i2l, 1) := by decide +kernel
theorem dL_sights_8 : decode cL_sights 8 = .ok (.lastore, 1) := by decide +kernel
theorem dL_sights_9 : decode cL_sights 9 = .ok (.goto 6, 3) := by decide +kernel
theorem dL_sights_12 : decode cL_sights 12 = .ok (.astore_n 3, 1) := by decide +kernel
theorem dL_sights_13 : decode cL_sights 13 = .ok (.iconst 1, 1) := by decide +kernel
theorem dL_sights_14 : decode cL_sights 14 = .ok (.ireturn, 1) := by decide +kernel
theorem dL_sights_15 : decode cL_sights 15 = .ok (.iconst 0, 1) := by decide +kernel
theorem dL_sights_16 : decode cL_sights 16 = .ok (.ireturn, 1) := by decide +kernel
theorem dL_alike_0 : decode cL_alike 0 = .ok (.aload_n 3, 1) := by decide +kernel
theorem dL_alike_1 : decode cL_alike 1 = .ok (.iconst 0, 1) := by decide +kernel
theorem dL_alike_2 : decode cL_alike 2 = .ok (.aload_n 0, 1) := by decide +kernel
theorem dL_alike_3 : decode cL_alike 3 = .ok (.iload_n 1, 1) := by decide +kernel
theorem dL_alike_4 : decode cL_alike 4 = .ok (.iload_n 2, 1) := by decide +kernel
theorem dL_alike_5 : decode cL_alike 5 = .ok (.invokevirtual 77, 3) := by decide +kernel
theorem dL_alike_8 : decode cL_alike 8 = .ok (.i2l, 1) := by decide +kernel
theorem dL_alike_9 : decode cL_alike 9 = .ok (.lastore, 1) := by decide +kernel
theorem dL_alike_10 : decode cL_alike 10 = .ok (.goto 7, 3) := by decide +kernel
theorem dL_alike_13 : decode cL_alike 13 = .ok (.astore 4, 2) := by decide +kernel
theorem dL_alike_15 : decode cL_alike 15 = .ok (.iconst 1, 1) := by decide +kernel
theorem dL_alike_16 : decode cL_alike 16 = .ok (.ireturn, 1) := by decide +kernel
theorem dL_alike_17 : decode cL_alike 17 = .ok (.iconst 0, 1) := by decide +kernel
theorem dL_alike_18 : decode cL_alike 18 = .ok (.ireturn, 1) := by decide +kernel
theorem dL_oldest_0 : decode cL_oldest 0 = .ok (.aload_n 3, 1) := by decide +kernel
theorem dL_oldest_1 : decode cL_oldest 1 = .ok (.iconst 0, 1) := by decide +kernel
theorem dL_oldest_2 : decode cL_oldest 2 = .ok (.aload_n 0, 1) := by decide +kernel
theorem dL_oldest_3 : decode cL_oldest 3 = .ok (.iload_n 1, 1) := by decide +kernel
theorem dL_oldest_4 : decode cL_oldest 4 = .ok (.iload_n 2, 1) := by decide +kernel
theorem dL_oldest_5 : decode cL_oldest 5 = .ok (.invokevirtual 80, 3) := by decide +kernel
theorem dL_oldest_8 : decode cL_oldest 8 = .ok (.i2l, 1) := by decide +kernel
theorem dL_oldest_9 : decode cL_oldest 9 = .ok (.lastore, 1) := by decide +kernel
theorem dL_oldest_10 : decode cL_oldest 10 = .ok (.goto 11, 3) := by decide +kernel
theorem dL_oldest_13 : decode cL_oldest 13 = .ok (.astore 4, 2) := by decide +kernel
theorem dL_oldest_15 : decode cL_oldest 15 = .ok (.iconst 1, 1) := by decide +kernel
theorem dL_oldest_16 : decode cL_oldest 16 = .ok (.ireturn, 1) := by decide +kernel
theorem dL_oldest_17 : decode cL_oldest 17 = .ok (.astore 4, 2) := by decide +kernel
theorem dL_oldest_19 : decode cL_oldest 19 = .ok (.iconst 2, 1) := by decide +kernel
theorem dL_oldest_20 : decode cL_oldest 20 = .ok (.ireturn, 1) := by decide +kernel
theorem dL_oldest_21 : decode cL_oldest 21 = .ok (.iconst 0, 1) := by decide +kernel
theorem dL_oldest_22 : decode cL_oldest 22 = .ok (.ireturn, 1) := by decide +kernel
theorem dL_patch_0 : decode cL_patch 0 = .ok (.aload_n 3, 1) := by decide +kernel
theorem dL_patch_1 : decode cL_patch 1 = .ok (.iconst 0, 1) := by decide +kernel
theorem dL_patch_2 : decode cL_patch 2 = .ok (.aload_n 0, 1) := by decide +kernel
theorem dL_patch_3 : decode cL_patch 3 = .ok (.iload_n 1, 1) := by decide +kernel
theorem dL_patch_4 : decode cL_patch 4 = .ok (.iload_n 2, 1) := by decide +kernel
theorem dL_patch_5 : decode cL_patch 5 = .ok (.invokevirtual 83, 3) := by decide +kernel
theorem dL_patch_8 : decode cL_patch 8 = .ok (.i2l, 1) := by decide +kernel
theorem dL_patch_9 : decode cL_patch 9 = .ok (.lastore, 1) := by decide +kernel
theorem dL_patch_10 : decode cL_patch 10 = .ok (.goto 11, 3) := by decide +kernel
theorem dL_patch_13 : decode cL_patch 13 = .ok (.astore 4, 2) := by decide +kernel
theorem dL_patch_15 : decode cL_patch 15 = .ok (.iconst 1, 1) := by decide +kernel
theorem dL_patch_16 : decode cL_patch 16 = .ok (.ireturn, 1) := by decide +kernel
theorem dL_patch_17 : decode cL_patch 17 = .ok (.astore 4, 2) := by decide +kernel
theorem dL_patch_19 : decode cL_patch 19 = .ok (.iconst 2, 1) := by decide +kernel
theorem dL_patch_20 : decode cL_patch 20 = .ok (.ireturn, 1) := by decide +kernel
theorem dL_patch_21 : decode cL_patch 21 = .ok (.iconst 0, 1) := by decide +kernel
theorem dL_patch_22 : decode cL_patch 22 = .ok (.ireturn, 1) := by decide +kernel
theorem dL_tells_0 : decode cL_tells 0 = .ok (.aload_n 2, 1) := by decide +kernel
theorem dL_tells_1 : decode cL_tells 1 = .ok (.iconst 0, 1) := by decide +kernel
theorem dL_tells_2 : decode cL_tells 2 = .ok (.aload_n 0, 1) := by decide +kernel
theorem dL_tells_3 : decode cL_tells 3 = .ok (.iload_n 1, 1) := by decide +kernel
theorem dL_tells_4 : decode cL_tells 4 = .ok (.invokevirtual 86, 3) := by decide +kernel
theorem dL_tells_7 : decode cL_tells 7 = .ok (.i2l, 1) := by decide +kernel
theorem dL_tells_8 : decode cL_tells 8 = .ok (.lastore, 1) := by decide +kernel
theorem dL_tells_9 : decode cL_tells 9 = .ok (.goto 6, 3) := by decide +kernel
theorem dL_tells_12 : decode cL_tells 12 = .ok (.astore_n 3, 1) := by decide +kernel
theorem dL_tells_13 : decode cL_tells 13 = .ok (.iconst 1, 1) := by decide +kernel
theorem dL_tells_14 : decode cL_tells 14 = .ok (.ireturn, 1) := by decide +kernel
theorem dL_tells_15 : decode cL_tells 15 = .ok (.iconst 0, 1) := by decide +kernel
theorem dL_tells_16 : decode cL_tells 16 = .ok (.ireturn, 1) := by decide +kernel
theorem dL_look_0 : decode cL_look 0 = .ok (.aload_n 3, 1) := by decide +kernel
theorem dL_look_1 : decode cL_look 1 = .ok (.iconst 0, 1) := by decide +kernel
theorem dL_look_2 : decode cL_look 2 = .ok (.aload_n 0, 1) := by decide +kernel
theorem dL_look_3 : decode cL_look 3 = .ok (.iload_n 1, 1) := by decide +kernel
theorem dL_look_4 : decode cL_look 4 = .ok (.iload_n 2, 1) := by decide +kernel
theorem dL_look_5 : decode cL_look 5 = .ok (.invokevirtual 89, 3) := by decide +kernel
theorem dL_look_8 : decode cL_look 8 = .ok (.i2l, 1) := by decide +kernel
theorem dL_look_9 : decode cL_look 9 = .ok (.lastore, 1) := by decide +kernel
theorem dL_look_10 : decode cL_look 10 = .ok (.goto 11, 3) := by decide +kernel
theorem dL_look_13 : decode cL_look 13 = .ok (.astore 4, 2) := by decide +kernel
theorem dL_look_15 : decode cL_look 15 = .ok (.iconst 1, 1) := by decide +kernel
theorem dL_look_16 : decode cL_look 16 = .ok (.ireturn, 1) := by decide +kernel
theorem dL_look_17 : decode cL_look 17 = .ok (.astore 4, 2) := by decide +kernel
theorem dL_look_19 : decode cL_look 19 = .ok (.iconst 2, 1) := by decide +kernel
theorem dL_look_20 : decode cL_look 20 = .ok (.ireturn, 1) := by decide +kernel
theorem dL_look_21 : decode cL_look 21 = .ok (.iconst 0, 1) := by decide +kernel
theorem dL_look_22 : decode cL_look 22 = .ok (.ireturn, 1) := by decide +kernel
theorem dL_cover_0 : decode cL_cover 0 = .ok (.aload 5, 2) := by decide +kernel
theorem dL_cover_2 : decode cL_cover 2 = .ok (.iconst 0, 1) := by decide +kernel
theorem dL_cover_3 : decode cL_cover 3 = .ok (.aload_n 0, 1) := by decide +kernel
theorem dL_cover_4 : decode cL_cover 4 = .ok (.iload_n 1, 1) := by decide +kernel
theorem dL_cover_5 : decode cL_cover 5 = .ok (.iload_n 2, 1) := by decide +kernel
theorem dL_cover_6 : decode cL_cover 6 = .ok (.iload_n 3, 1) := by decide +kernel
theorem dL_cover_7 : decode cL_cover 7 = .ok (.iload 4, 2) := by decide +kernel
theorem dL_cover_9 : decode cL_cover 9 = .ok (.invokevirtual 92, 3) := by decide +kernel
theorem dL_cover_12 : decode cL_cover 12 = .ok (.i2l, 1) := by decide +kernel
theorem dL_cover_13 : decode cL_cover 13 = .ok (.lastore, 1) := by decide +kernel
theorem dL_cover_14 : decode cL_cover 14 = .ok (.goto 11, 3) := by decide +kernel
theorem dL_cover_17 : decode cL_cover 17 = .ok (.astore 6, 2) := by decide +kernel
theorem dL_cover_19 : decode cL_cover 19 = .ok (.iconst 1, 1) := by decide +kernel
theorem dL_cover_20 : decode cL_cover 20 = .ok (.ireturn, 1) := by decide +kernel
theorem dL_cover_21 : decode cL_cover 21 = .ok (.astore 6, 2) := by decide +kernel
theorem dL_cover_23 : decode cL_cover 23 = .ok (.iconst 2, 1) := by decide +kernel
theorem dL_cover_24 : decode cL_cover 24 = .ok (.ireturn, 1) := by decide +kernel
theorem dL_cover_25 : decode cL_cover 25 = .ok (.iconst 0, 1) := by decide +kernel
theorem dL_cover_26 : decode cL_cover 26 = .ok (.ireturn, 1) := by decide +kernel
theorem dL_game_0 : decode cL_game 0 = .ok (.aload 4, 2) := by decide +kernel
theorem dL_game_2 : decode cL_game 2 = .ok (.iconst 0, 1) := by decide +kernel
theorem dL_game_3 : decode cL_game 3 = .ok (.aload_n 0, 1) := by decide +kernel
theorem dL_game_4 : decode cL_game 4 = .ok (.iload_n 1, 1) := by decide +kernel
theorem dL_game_5 : decode cL_game 5 = .ok (.iload_n 2, 1) := by decide +kernel
theorem dL_game_6 : decode cL_game 6 = .ok (.iload_n 3, 1) := by decide +kernel
theorem dL_game_7 : decode cL_game 7 = .ok (.invokevirtual 95, 3) := by decide +kernel
theorem dL_game_10 : decode cL_game 10 = .ok (.i2l, 1) := by decide +kernel
theorem dL_game_11 : decode cL_game 11 = .ok (.lastore, 1) := by decide +kernel
theorem dL_game_12 : decode cL_game 12 = .ok (.goto 11, 3) := by decide +kernel
theorem dL_game_15 : decode cL_game 15 = .ok (.astore 5, 2) := by decide +kernel
theorem dL_game_17 : decode cL_game 17 = .ok (.iconst 1, 1) := by decide +kernel
theorem dL_game_18 : decode cL_game 18 = .ok (.ireturn, 1) := by decide +kernel
theorem dL_game_19 : decode cL_game 19 = .ok (.astore 5, 2) := by decide +kernel
theorem dL_game_21 : decode cL_game 21 = .ok (.iconst 2, 1) := by decide +kernel
theorem dL_game_22 : decode cL_game 22 = .ok (.ireturn, 1) := by decide +kernel
theorem dL_game_23 : decode cL_game 23 = .ok (.iconst 0, 1) := by decide +kernel
theorem dL_game_24 : decode cL_game 24 = .ok (.ireturn, 1) := by decide +kernel
theorem dL_round_0 : decode cL_round 0 = .ok (.aload_n 3, 1) := by decide +kernel
theorem dL_round_1 : decode cL_round 1 = .ok (.iconst 0, 1) := by decide +kernel
theorem dL_round_2 : decode cL_round 2 = .ok (.aload_n 0, 1) := by decide +kernel
theorem dL_round_3 : decode cL_round 3 = .ok (.iload_n 1, 1) := by decide +kernel
theorem dL_round_4 : decode cL_round 4 = .ok (.iload_n 2, 1) := by decide +kernel
theorem dL_round_5 : decode cL_round 5 = .ok (.invokevirtual 98, 3) := by decide +kernel
theorem dL_round_8 : decode cL_round 8 = .ok (.i2l, 1) := by decide +kernel
theorem dL_round_9 : decode cL_round 9 = .ok (.lastore, 1) := by decide +kernel
theorem dL_round_10 : decode cL_round 10 = .ok (.goto 7, 3) := by decide +kernel
theorem dL_round_13 : decode cL_round 13 = .ok (.astore 4, 2) := by decide +kernel
theorem dL_round_15 : decode cL_round 15 = .ok (.iconst 1, 1) := by decide +kernel
theorem dL_round_16 : decode cL_round 16 = .ok (.ireturn, 1) := by decide +kernel
theorem dL_round_17 : decode cL_round 17 = .ok (.iconst 0, 1) := by decide +kernel
theorem dL_round_18 : decode cL_round 18 = .ok (.ireturn, 1) := by decide +kernel
theorem dL_by_0 : decode cL_by 0 = .ok (.aload_n 3, 1) := by decide +kernel
theorem dL_by_1 : decode cL_by 1 = .ok (.iconst 0, 1) := by decide +kernel
theorem dL_by_2 : decode cL_by 2 = .ok (.aload_n 0, 1) := by decide +kernel
theorem dL_by_3 : decode cL_by 3 = .ok (.iload_n 1, 1) := by decide +kernel
theorem dL_by_4 : decode cL_by 4 = .ok (.iload_n 2, 1) := by decide +kernel
theorem dL_by_5 : decode cL_by 5 = .ok (.invokevirtual 101, 3) := by decide +kernel
theorem dL_by_8 : decode cL_by 8 = .ok (.ifCond .eq 7, 3) := by decide +kernel
theorem dL_by_11 : decode cL_by 11 = .ok (.lconst 1, 1) := by decide +kernel
theorem dL_by_12 : decode cL_by 12 = .ok (.goto 4, 3) := by decide +kernel
theorem dL_by_15 : decode cL_by 15 = .ok (.lconst 0, 1) := by decide +kernel
theorem dL_by_16 : decode cL_by 16 = .ok (.lastore, 1) := by decide +kernel
theorem dL_by_17 : decode cL_by 17 = .ok (.goto 7, 3) := by decide +kernel
theorem dL_by_20 : decode cL_by 20 = .ok (.astore 4, 2) := by decide +kernel
theorem dL_by_22 : decode cL_by 22 = .ok (.iconst 1, 1) := by decide +kernel
theorem dL_by_23 : decode cL_by 23 = .ok (.ireturn, 1) := by decide +kernel
theorem dL_by_24 : decode cL_by 24 = .ok (.iconst 0, 1) := by decide +kernel
theorem dL_by_25 : decode cL_by 25 = .ok (.ireturn, 1) := by decide +kernel
theorem dL_share_0 : decode cL_share 0 = .ok (.aload 5, 2) := by decide +kernel
theorem dL_share_2 : decode cL_share 2 = .ok (.iconst 0, 1) := by decide +kernel
theorem dL_share_3 : decode cL_share 3 = .ok (.aload_n 0, 1) := by decide +kernel
theorem dL_share_4 : decode cL_share 4 = .ok (.iload_n 1, 1) := by decide +kernel
theorem dL_share_5 : decode cL_share 5 = .ok (.iload_n 2, 1) := by decide +kernel
theorem dL_share_6 : decode cL_share 6 = .ok (.iload_n 3, 1) := by decide +kernel
theorem dL_share_7 : decode cL_share 7 = .ok (.iload 4, 2) := by decide +kernel
theorem dL_share_9 : decode cL_share 9 = .ok (.invokevirtual 105, 3) := by decide +kernel
theorem dL_share_12 : decode cL_share 12 = .ok (.i2l, 1) := by decide +kernel
theorem dL_share_13 : decode cL_share 13 = .ok (.lastore, 1) := by decide +kernel
theorem dL_share_14 : decode cL_share 14 = .ok (.goto 15, 3) := by decide +kernel
theorem dL_share_17 : decode cL_share 17 = .ok (.astore 6, 2) := by decide +kernel
theorem dL_share_19 : decode cL_share 19 = .ok (.iconst 1, 1) := by decide +kernel
theorem dL_share_20 : decode cL_share 20 = .ok (.ireturn, 1) := by decide +kernel
theorem dL_share_21 : decode cL_share 21 = .ok (.astore 6, 2) := by decide +kernel
theorem dL_share_23 : decode cL_share 23 = .ok (.iconst 2, 1) := by decide +kernel
theorem dL_share_24 : decode cL_share 24 = .ok (.ireturn, 1) := by decide +kernel
theorem dL_share_25 : decode cL_share 25 = .ok (.astore 6, 2) := by decide +kernel
theorem dL_share_27 : decode cL_share 27 = .ok (.iconst 3, 1) := by decide +kernel
theorem dL_share_28 : decode cL_share 28 = .ok (.ireturn, 1) := by decide +kernel
theorem dL_share_29 : decode cL_share 29 = .ok (.iconst 0, 1) := by decide +kernel
theorem dL_share_30 : decode cL_share 30 = .ok (.ireturn, 1) := by decide +kernel
theorem dL_ahead_0 : decode cL_ahead 0 = .ok (.aload 4, 2) := by decide +kernel
theorem dL_ahead_2 : decode cL_ahead 2 = .ok (.iconst 0, 1) := by decide +kernel
theorem dL_ahead_3 : decode cL_ahead 3 = .ok (.aload_n 0, 1) := by decide +kernel
theorem dL_ahead_4 : decode cL_ahead 4 = .ok (.iload_n 1, 1) := by decide +kernel
theorem dL_ahead_5 : decode cL_ahead 5 = .ok (.iload_n 2, 1) := by decide +kernel
theorem dL_ahead_6 : decode cL_ahead 6 = .ok (.iload_n 3, 1) := by decide +kernel
theorem dL_ahead_7 : decode cL_ahead 7 = .ok (.invokevirtual 108, 3) := by decide +kernel
theorem dL_ahead_10 : decode cL_ahead 10 = .ok (.i2l, 1) := by decide +kernel
theorem dL_ahead_11 : decode cL_ahead 11 = .ok (.lastore, 1) := by decide +kernel
theorem dL_ahead_12 : decode cL_ahead 12 = .ok (.goto 11, 3) := by decide +kernel
theorem dL_ahead_15 : decode cL_ahead 15 = .ok (.astore 5, 2) := by decide +kernel
theorem dL_ahead_17 : decode cL_ahead 17 = .ok (.iconst 1, 1) := by decide +kernel
theorem dL_ahead_18 : decode cL_ahead 18 = .ok (.ireturn, 1) := by decide +kernel
theorem dL_ahead_19 : decode cL_ahead 19 = .ok (.astore 5, 2) := by decide +kernel
theorem dL_ahead_21 : decode cL_ahead 21 = .ok (.iconst 2, 1) := by decide +kernel
theorem dL_ahead_22 : decode cL_ahead 22 = .ok (.ireturn, 1) := by decide +kernel
theorem dL_ahead_23 : decode cL_ahead 23 = .ok (.iconst 0, 1) := by decide +kernel
theorem dL_ahead_24 : decode cL_ahead 24 = .ok (.ireturn, 1) := by decide +kernel
theorem dL_decade_0 : decode cL_decade 0 = .ok (.aload 5, 2) := by decide +kernel
theorem dL_decade_2 : decode cL_decade 2 = .ok (.iconst 0, 1) := by decide +kernel
theorem dL_decade_3 : decode cL_decade 3 = .ok (.aload_n 0, 1) := by decide +kernel
theorem dL_decade_4 : decode cL_decade 4 = .ok (.iload_n 1, 1) := by decide +kernel
theorem dL_decade_5 : decode cL_decade 5 = .ok (.iload_n 2, 1) := by decide +kernel
theorem dL_decade_6 : decode cL_decade 6 = .ok (.iload_n 3, 1) := by decide +kernel
theorem dL_decade_7 : decode cL_decade 7 = .ok (.iload 4, 2) := by decide +kernel
theorem dL_decade_9 : decode cL_decade 9 = .ok (.invokevirtual 111, 3) := by decide +kernel
theorem dL_decade_12 : decode cL_decade 12 = .ok (.i2l, 1) := by decide +kernel
theorem dL_decade_13 : decode cL_decade 13 = .ok (.lastore, 1) := by decide +kernel
theorem dL_decade_14 : decode cL_decade 14 = .ok (.goto 7, 3) := by decide +kernel
theorem dL_decade_17 : decode cL_decade 17 = .ok (.astore 6, 2) := by decide +kernel
theorem dL_decade_19 : decode cL_decade 19 = .ok (.iconst 1, 1) := by decide +kernel
theorem dL_decade_20 : decode cL_decade 20 = .ok (.ireturn, 1) := by decide +kernel
theorem dL_decade_21 : decode cL_decade 21 = .ok (.iconst 0, 1) := by decide +kernel
theorem dL_decade_22 : decode cL_decade 22 = .ok (.ireturn, 1) := by decide +kernel
theorem dL_span_0 : decode cL_span 0 = .ok (.aload 7, 2) := by decide +kernel
theorem dL_span_2 : decode cL_span 2 = .ok (.iconst 0, 1) := by decide +kernel
theorem dL_span_3 : decode cL_span 3 = .ok (.aload_n 0, 1) := by decide +kernel
theorem dL_span_4 : decode cL_span 4 = .ok (.iload_n 1, 1) := by decide +kernel
theorem dL_span_5 : decode cL_span 5 = .ok (.iload_n 2, 1) := by decide +kernel
theorem dL_span_6 : decode cL_span 6 = .ok (.iload_n 3, 1) := by decide +kernel
theorem dL_span_7 : decode cL_span 7 = .ok (.iload 4, 2) := by decide +kernel
theorem dL_span_9 : decode cL_span 9 = .ok (.iload 5, 2) := by decide +kernel
theorem dL_span_11 : decode cL_span 11 = .ok (.iload 6, 2) := by decide +kernel
theorem dL_span_13 : decode cL_span 13 = .ok (.invokevirtual 114, 3) := by decide +kernel
theorem dL_span_16 : decode cL_span 16 = .ok (.i2l, 1) := by decide +kernel
theorem dL_span_17 : decode cL_span 17 = .ok (.lastore, 1) := by decide +kernel
theorem dL_span_18 : decode cL_span 18 = .ok (.goto 7, 3) := by decide +kernel
theorem dL_span_21 : decode cL_span 21 = .ok (.astore 8, 2) := by decide +kernel
theorem dL_span_23 : decode cL_span 23 = .ok (.iconst 1, 1) := by decide +kernel
theorem dL_span_24 : decode cL_span 24 = .ok (.ireturn, 1) := by decide +kernel
theorem dL_span_25 : decode cL_span 25 = .ok (.iconst 0, 1) := by decide +kernel
theorem dL_span_26 : decode cL_span 26 = .ok (.ireturn, 1) := by decide +kernel
