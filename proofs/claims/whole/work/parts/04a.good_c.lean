set_option maxRecDepth 20000 in
theorem ggX0_read_X0_forget : GoodIn wsX0_read wsX0_forget := goodIn_r _ [7, 8, 9, 65, 66, 67, 68] rfl (by decide +kernel)
set_option maxRecDepth 20000 in
theorem gX0_read_X0_forget : GoodIn wsX0_read (wsV RX0 25 RX0 yX0_forget wsX0_forget) := goodIn_app (goodIn_r _ [3, 4, 5, 6] rfl (by decide +kernel)) ggX0_read_X0_forget
set_option maxRecDepth 20000 in
theorem ggX0_read_X0_readLine : GoodIn wsX0_read wsX0_readLine := goodIn_r _ [13, 2, 14, 8, 9, 1, 15, 16, 17, 18, 19, 20, 21, 22, 23, 24, 25, 26, 27, 28, 29, 30, 31, 32, 33, 34, 35, 36, 37, 38, 39, 40, 41, 42, 43, 44, 45, 46, 47, 48, 49, 50, 51, 56, 57, 58, 59, 60, 61, 62, 63, 64, 65, 66, 67, 68] rfl (by decide +kernel)
set_option maxRecDepth 20000 in
theorem gX0_read_X0_readLine : GoodIn wsX0_read (wsV RX0 36 RX0 yX0_readLine wsX0_readLine) := goodIn_app (goodIn_r _ [10, 11, 12, 6] rfl (by decide +kernel)) ggX0_read_X0_readLine
set_option maxRecDepth 20000 in
theorem ggX0_read_X7_takeEnd : GoodIn wsX0_read wsX7_takeEnd := goodIn_r _ [55, 25, 22, 31, 18, 19, 20, 21, 23, 24, 56, 57, 58, 59, 60, 61, 62, 63, 64] rfl (by decide +kernel)
set_option maxRecDepth 20000 in
theorem gX0_read_X7_takeEnd : GoodIn wsX0_read (wsV RX0 40 RX7 yX7_takeEnd wsX7_takeEnd) := goodIn_app (goodIn_r _ [52, 53, 54, 20] rfl (by decide +kernel)) ggX0_read_X7_takeEnd
set_option maxRecDepth 20000 in
theorem ggX0_readLine_X7_wrong : GoodIn wsX0_readLine wsX7_wrong := goodIn_r _ [12, 13, 14, 15, 16, 43, 44, 45, 46, 47, 48, 49, 50, 51] rfl (by decide +kernel)
set_option maxRecDepth 20000 in
theorem gX0_readLine_X7_wrong : GoodIn wsX0_readLine (wsV RX0 47 RX7 yX7_wrong wsX7_wrong) := goodIn_app (goodIn_r _ [8, 9, 10, 11] rfl (by decide +kernel)) ggX0_readLine_X7_wrong
set_option maxRecDepth 20000 in
theorem ggX0_readLine_X7_takeNumber : GoodIn wsX0_readLine wsX7_takeNumber := goodIn_r _ [20, 16, 21, 22, 9, 10, 11, 12, 13, 14, 15, 23, 24, 25, 26, 27, 28, 29, 30, 31, 32, 33, 34, 43, 44, 45, 46, 47, 48, 49, 50, 51] rfl (by decide +kernel)
set_option maxRecDepth 20000 in
theorem gX0_readLine_X7_takeNumber : GoodIn wsX0_readLine (wsV RX0 51 RX7 yX7_takeNumber wsX7_takeNumber) := goodIn_app (goodIn_r _ [17, 18, 19, 11] rfl (by decide +kernel)) ggX0_readLine_X7_takeNumber
set_option maxRecDepth 20000 in
theorem ggX0_readLine_X7_takeSign : GoodIn wsX0_readLine wsX7_takeSign := goodIn_r _ [38, 39, 40, 41, 11, 42, 16, 29, 14, 23, 24, 25, 26, 13, 27, 28, 21, 30, 31, 32, 33, 34, 22, 9, 10, 12, 15, 43, 44, 45, 46, 47, 48, 49, 50, 51] rfl (by decide +kernel)
set_option maxRecDepth 20000 in
theorem gX0_readLine_X7_takeSign : GoodIn wsX0_readLine (wsV RX0 55 RX7 yX7_takeSign wsX7_takeSign) := goodIn_app (goodIn_r _ [35, 36, 37, 11] rfl (by decide +kernel)) ggX0_readLine_X7_takeSign
set_option maxRecDepth 20000 in
theorem ggX0_depths_X0_depthsShowing : GoodIn wsX0_depths wsX0_depthsShowing := goodIn_r _ [9, 2, 10, 11, 12, 13, 14, 15, 16, 17, 18, 19, 20, 21, 26, 27, 28, 29, 30, 31, 32, 33] rfl (by decide +kernel)
set_option maxRecDepth 20000 in
theorem gX0_depths_X0_depthsShowing : GoodIn wsX0_depths (va_wsS RX0 60 yX0_depthsShowing wsX0_depthsShowing) := goodIn_app (goodIn_r _ [6, 7, 8] rfl (by decide +kernel)) ggX0_depths_X0_depthsShowing
set_option maxRecDepth 20000 in
theorem ggX0_depthsShowing_X2_outsideOf : GoodIn wsX0_depthsShowing wsX2_outsideOf := goodIn_r _ [7, 8, 9, 10, 11, 6, 12, 13, 14, 15, 16, 17, 18, 19, 20, 21] rfl (by decide +kernel)
set_option maxRecDepth 20000 in
theorem gX0_depthsShowing_X2_outsideOf : GoodIn wsX0_depthsShowing (wsV RX0 69 RX2 yX2_outsideOf wsX2_outsideOf) := goodIn_app (goodIn_r _ [3, 4, 5, 6] rfl (by decide +kernel)) ggX0_depthsShowing_X2_outsideOf
set_option maxRecDepth 20000 in
theorem ggX0_nextLook_X0_depths : GoodIn wsX0_nextLook wsX0_depths := goodIn_r _ [7, 1, 8, 9, 10, 11, 12, 13, 6, 14, 2, 15, 16, 17, 18, 19, 20, 21, 22, 23, 24, 25, 40, 41, 42, 43, 44, 45, 46, 47, 48, 49, 50, 51] rfl (by decide +kernel)
set_option maxRecDepth 20000 in
theorem gX0_nextLook_X0_depths : GoodIn wsX0_nextLook (wsV RX0 72 RX0 yX0_depths wsX0_depths) := goodIn_app (goodIn_r _ [3, 4, 5, 6] rfl (by decide +kernel)) ggX0_nextLook_X0_depths
set_option maxRecDepth 20000 in
theorem ggX0_nextLook_X0_leftAtWorst : GoodIn wsX0_nextLook wsX0_leftAtWorst := goodIn_r _ [28, 29, 30, 31, 32, 33, 34, 35, 36, 37, 38, 39] rfl (by decide +kernel)
set_option maxRecDepth 20000 in
theorem gX0_nextLook_X0_leftAtWorst : GoodIn wsX0_nextLook (va_wsS RX0 75 yX0_leftAtWorst wsX0_leftAtWorst) := goodIn_app (goodIn_r _ [26, 27, 6] rfl (by decide +kernel)) ggX0_nextLook_X0_leftAtWorst
set_option maxRecDepth 20000 in
theorem ggX0_leftAtWorst_J6_bitCount_0f7a4 : GoodIn wsX0_leftAtWorst wsJ6_bitCount_0f7a4 := goodIn_r _ [8, 9, 10, 11] rfl (by decide +kernel)
set_option maxRecDepth 20000 in
theorem gX0_leftAtWorst_J6_bitCount_0f7a4 : GoodIn wsX0_leftAtWorst (va_wsS RX0 78 yJ6_bitCount_0f7a4 wsJ6_bitCount_0f7a4) := goodIn_app (goodIn_r _ [5, 6, 7] rfl (by decide +kernel)) ggX0_leftAtWorst_J6_bitCount_0f7a4
set_option maxRecDepth 20000 in
theorem ggX1_cellsHaving_X2_outsideOf : GoodIn wsX1_cellsHaving wsX2_outsideOf := goodIn_r _ [5, 6, 7, 8, 9, 4, 10, 11, 12, 13, 14, 15, 16, 17, 18, 19] rfl (by decide +kernel)
set_option maxRecDepth 20000 in
theorem gX1_cellsHaving_X2_outsideOf : GoodIn wsX1_cellsHaving (wsV RX1 24 RX2 yX2_outsideOf wsX2_outsideOf) := goodIn_app (goodIn_r _ [1, 2, 3, 4] rfl (by decide +kernel)) ggX1_cellsHaving_X2_outsideOf
set_option maxRecDepth 20000 in
theorem ggX1_cellsShowing_X2_shown : GoodIn wsX1_cellsShowing wsX2_shown := goodIn_r _ [5, 6, 7, 8, 9, 10, 11, 12, 13, 14, 15] rfl (by decide +kernel)
set_option maxRecDepth 20000 in
theorem gX1_cellsShowing_X2_shown : GoodIn wsX1_cellsShowing (wsV RX1 30 RX2 yX2_shown wsX2_shown) := goodIn_app (goodIn_r _ [1, 2, 3, 4] rfl (by decide +kernel)) ggX1_cellsShowing_X2_shown
set_option maxRecDepth 20000 in
theorem ggX1_costOf_X2_outsideOf : GoodIn wsX1_costOf wsX2_outsideOf := goodIn_r _ [5, 6, 7, 8, 9, 4, 10, 11, 12, 13, 14, 15, 16, 17, 18, 19] rfl (by decide +kernel)
set_option maxRecDepth 20000 in
theorem gX1_costOf_X2_outsideOf : GoodIn wsX1_costOf (wsV RX1 24 RX2 yX2_outsideOf wsX2_outsideOf) := goodIn_app (goodIn_r _ [1, 2, 3, 4] rfl (by decide +kernel)) ggX1_costOf_X2_outsideOf
set_option maxRecDepth 20000 in
theorem ggX1_bestDay_X2_behind : GoodIn wsX1_bestDay wsX2_behind := goodIn_r _ [6, 7, 8, 19, 20, 21, 22, 23, 24, 25, 26] rfl (by decide +kernel)
set_option maxRecDepth 20000 in
theorem gX1_bestDay_X2_behind : GoodIn wsX1_bestDay (wsV RX1 36 RX2 yX2_behind wsX2_behind) := goodIn_app (goodIn_r _ [2, 3, 4, 5] rfl (by decide +kernel)) ggX1_bestDay_X2_behind
set_option maxRecDepth 20000 in
theorem ggX1_bestDay_X1_costOf : GoodIn wsX1_bestDay wsX1_costOf := goodIn_r _ [13, 14, 15, 16, 5, 17, 7, 18, 3, 4, 6, 8, 19, 20, 21, 22, 23, 24, 25, 26] rfl (by decide +kernel)
set_option maxRecDepth 20000 in
theorem gX1_bestDay_X1_costOf : GoodIn wsX1_bestDay (wsV RX1 39 RX1 yX1_costOf wsX1_costOf) := goodIn_app (goodIn_r _ [9, 10, 11, 12] rfl (by decide +kernel)) ggX1_bestDay_X1_costOf
set_option maxRecDepth 20000 in
theorem ggX1_countSeams_X1_isSeam : GoodIn wsX1_countSeams wsX1_isSeam := goodIn_r _ [4, 5, 6, 7, 8, 9, 10, 11, 12, 13, 14, 15, 16, 17, 18, 19] rfl (by decide +kernel)
set_option maxRecDepth 20000 in
theorem gX1_countSeams_X1_isSeam : GoodIn wsX1_countSeams (va_wsS RX1 43 yX1_isSeam wsX1_isSeam) := goodIn_app (goodIn_r _ [1, 2, 3] rfl (by decide +kernel)) ggX1_countSeams_X1_isSeam
set_option maxRecDepth 20000 in
theorem ggX1_isSeam_X2_shown : GoodIn wsX1_isSeam wsX2_shown := goodIn_r _ [5, 6, 7, 8, 9, 10, 11, 12, 13, 14, 15] rfl (by decide +kernel)
set_option maxRecDepth 20000 in
theorem gX1_isSeam_X2_shown : GoodIn wsX1_isSeam (wsV RX1 30 RX2 yX2_shown wsX2_shown) := goodIn_app (goodIn_r _ [1, 2, 3, 4] rfl (by decide +kernel)) ggX1_isSeam_X2_shown
set_option maxRecDepth 20000 in
theorem ggX1_markFilms_J7_fill_53178 : GoodIn wsX1_markFilms wsJ7_fill_53178 := goodIn_r _ [6] rfl (by decide +kernel)
set_option maxRecDepth 20000 in
theorem gX1_markFilms_J7_fill_53178 : GoodIn wsX1_markFilms (va_wsS RX1 47 yJ7_fill_53178 wsJ7_fill_53178) := goodIn_app (goodIn_r _ [3, 4, 5] rfl (by decide +kernel)) ggX1_markFilms_J7_fill_53178
set_option maxRecDepth 20000 in
theorem ggX1_markFilms_X2_behind : GoodIn wsX1_markFilms wsX2_behind := goodIn_r _ [11, 12, 13, 18, 19, 20, 21, 22, 23, 24, 25] rfl (by decide +kernel)
set_option maxRecDepth 20000 in
theorem gX1_markFilms_X2_behind : GoodIn wsX1_markFilms (wsV RX1 36 RX2 yX2_behind wsX2_behind) := goodIn_app (goodIn_r _ [7, 8, 9, 10] rfl (by decide +kernel)) ggX1_markFilms_X2_behind
set_option maxRecDepth 20000 in
theorem ggX1_countDaysShown_X1_markFilms : GoodIn wsX1_countDaysShown wsX1_markFilms := goodIn_r _ [6, 1, 7, 8, 9, 10, 11, 12, 13, 14, 15, 16, 17, 18, 19, 20, 21, 22, 23, 24, 25, 26, 27, 28, 29, 30] rfl (by decide +kernel)
set_option maxRecDepth 20000 in
theorem gX1_countDaysShown_X1_markFilms : GoodIn wsX1_countDaysShown (wsV RX1 53 RX1 yX1_markFilms wsX1_markFilms) := goodIn_app (goodIn_r _ [2, 3, 4, 5] rfl (by decide +kernel)) ggX1_countDaysShown_X1_markFilms
set_option maxRecDepth 20000 in
theorem ggX1_earliest_X1_markFilms : GoodIn wsX1_earliest wsX1_markFilms := goodIn_r _ [6, 1, 7, 8, 9, 10, 11, 12, 13, 14, 15, 16, 17, 18, 19, 20, 21, 22, 23, 24, 25, 26, 27, 28, 29, 30] rfl (by decide +kernel)
set_option maxRecDepth 20000 in
theorem gX1_earliest_X1_markFilms : GoodIn wsX1_earliest (wsV RX1 53 RX1 yX1_markFilms wsX1_markFilms) := goodIn_app (goodIn_r _ [2, 3, 4, 5] rfl (by decide +kernel)) ggX1_earliest_X1_markFilms
set_option maxRecDepth 20000 in
theorem ggX1_latestHidden_X1_markFilms : GoodIn wsX1_latestHidden wsX1_markFilms := goodIn_r _ [6, 1, 7, 8, 9, 10, 11, 12, 13, 14, 15, 16, 17, 18, 19, 20, 21, 22, 23, 24, 25, 26, 27, 28, 29, 30] rfl (by decide +kernel)
set_option maxRecDepth 20000 in
theorem gX1_latestHidden_X1_markFilms : GoodIn wsX1_latestHidden (wsV RX1 53 RX1 yX1_markFilms wsX1_markFilms) := goodIn_app (goodIn_r _ [2, 3, 4, 5] rfl (by decide +kernel)) ggX1_latestHidden_X1_markFilms
set_option maxRecDepth 20000 in
theorem ggX1_sameCells_X2_shown : GoodIn wsX1_sameCells wsX2_shown := goodIn_r _ [5, 6, 7, 8, 9, 10, 11, 12, 13, 14, 15] rfl (by decide +kernel)
set_option maxRecDepth 20000 in
theorem gX1_sameCells_X2_shown : GoodIn wsX1_sameCells (wsV RX1 30 RX2 yX2_shown wsX2_shown) := goodIn_app (goodIn_r _ [1, 2, 3, 4] rfl (by decide +kernel)) ggX1_sameCells_X2_shown
set_option maxRecDepth 20000 in
theorem ggX1_findPatch_X2_shown : GoodIn wsX1_findPatch wsX2_shown := goodIn_r _ [7, 8, 9, 30, 31, 32, 33, 34, 35, 36, 37] rfl (by decide +kernel)
set_option maxRecDepth 20000 in
theorem gX1_findPatch_X2_shown : GoodIn wsX1_findPatch (wsV RX1 30 RX2 yX2_shown wsX2_shown) := goodIn_app (goodIn_r _ [3, 4, 5, 6] rfl (by decide +kernel)) ggX1_findPatch_X2_shown
set_option maxRecDepth 20000 in
theorem ggX1_findPatch_X1_cellsShowing : GoodIn wsX1_findPatch wsX1_cellsShowing := goodIn_r _ [14, 3, 4, 5, 6, 7, 8, 9, 30, 31, 32, 33, 34, 35, 36, 37] rfl (by decide +kernel)
set_option maxRecDepth 20000 in
theorem gX1_findPatch_X1_cellsShowing : GoodIn wsX1_findPatch (wsV RX1 64 RX1 yX1_cellsShowing wsX1_cellsShowing) := goodIn_app (goodIn_r _ [10, 11, 12, 13] rfl (by decide +kernel)) ggX1_findPatch_X1_cellsShowing
set_option maxRecDepth 20000 in
theorem ggX1_findPatch_X1_spread : GoodIn wsX1_findPatch wsX1_spread := goodIn_r _ [17, 18] rfl (by decide +kernel)
set_option maxRecDepth 20000 in
theorem gX1_findPatch_X1_spread : GoodIn wsX1_findPatch (va_wsS RX1 67 yX1_spread wsX1_spread) := goodIn_app (goodIn_r _ [15, 16, 13] rfl (by decide +kernel)) ggX1_findPatch_X1_spread
set_option maxRecDepth 20000 in
theorem ggX1_findPatch_J6_bitCount_0f7a4 : GoodIn wsX1_findPatch wsJ6_bitCount_0f7a4 := goodIn_r _ [22, 23, 24, 25] rfl (by decide +kernel)
set_option maxRecDepth 20000 in
theorem gX1_findPatch_J6_bitCount_0f7a4 : GoodIn wsX1_findPatch (va_wsS RX1 70 yJ6_bitCount_0f7a4 wsJ6_bitCount_0f7a4) := goodIn_app (goodIn_r _ [19, 20, 21] rfl (by decide +kernel)) ggX1_findPatch_J6_bitCount_0f7a4
set_option maxRecDepth 20000 in
theorem ggX1_fewestCircles_X1_circleAt : GoodIn wsX1_fewestCircles wsX1_circleAt := goodIn_r _ [5, 6, 7, 8, 9] rfl (by decide +kernel)
set_option maxRecDepth 20000 in
theorem gX1_fewestCircles_X1_circleAt : GoodIn wsX1_fewestCircles (va_wsS RX1 76 yX1_circleAt wsX1_circleAt) := goodIn_app (goodIn_r _ [2, 3, 4] rfl (by decide +kernel)) ggX1_fewestCircles_X1_circleAt
set_option maxRecDepth 20000 in
theorem ggX1_fewestCircles_X1_pickCircles : GoodIn wsX1_fewestCircles wsX1_pickCircles := goodIn_r _ [13, 1, 10, 11, 12, 4, 14, 15, 16, 17] rfl (by decide +kernel)
set_option maxRecDepth 20000 in
theorem gX1_fewestCircles_X1_pickCircles : GoodIn wsX1_fewestCircles (wsV RX1 80 RX1 yX1_pickCircles wsX1_pickCircles) := goodIn_app (goodIn_r _ [10, 11, 12, 4] rfl (by decide +kernel)) ggX1_fewestCircles_X1_pickCircles
set_option maxRecDepth 20000 in
theorem ggX1_pickCircles_X1_pickCircles : GoodIn wsX1_pickCircles wsX1_pickCircles := goodIn_r _ [0, 1, 2, 3, 4, 5, 6, 7, 8, 9] rfl (by decide +kernel)
set_option maxRecDepth 20000 in
theorem gX1_pickCircles_X1_pickCircles : GoodIn wsX1_pickCircles (wsV RX1 80 RX1 yX1_pickCircles wsX1_pickCircles) := goodIn_app (goodIn_r _ [2, 3, 4, 5] rfl (by decide +kernel)) ggX1_pickCircles_X1_pickCircles
set_option maxRecDepth 20000 in
theorem ggX1_shareOf_X2_filmsOn : GoodIn wsX1_shareOf wsX2_filmsOn := goodIn_r _ [6, 7, 8, 9, 10, 11, 12, 13, 14, 15] rfl (by decide +kernel)
set_option maxRecDepth 20000 in
theorem gX1_shareOf_X2_filmsOn : GoodIn wsX1_shareOf (wsV RX1 84 RX2 yX2_filmsOn wsX2_filmsOn) := goodIn_app (goodIn_r _ [2, 3, 4, 5] rfl (by decide +kernel)) ggX1_shareOf_X2_filmsOn
set_option maxRecDepth 20000 in
theorem ggX2_forget_J7_fill_53178 : GoodIn wsX2_forget wsJ7_fill_53178 := goodIn_r _ [11] rfl (by decide +kernel)
set_option maxRecDepth 20000 in
theorem gX2_forget_J7_fill_53178 : GoodIn wsX2_forget (va_wsS RX2 21 yJ7_fill_53178 wsJ7_fill_53178) := goodIn_app (goodIn_r _ [8, 9, 10] rfl (by decide +kernel)) ggX2_forget_J7_fill_53178
set_option maxRecDepth 20000 in
theorem ggX2_outsideOf_X2_behind : GoodIn wsX2_outsideOf wsX2_behind := goodIn_r _ [6, 1, 7, 8, 9, 10, 11, 12, 13, 14, 15] rfl (by decide +kernel)
set_option maxRecDepth 20000 in
theorem gX2_outsideOf_X2_behind : GoodIn wsX2_outsideOf (wsV RX2 49 RX2 yX2_behind wsX2_behind) := goodIn_app (goodIn_r _ [2, 3, 4, 5] rfl (by decide +kernel)) ggX2_outsideOf_X2_behind
set_option maxRecDepth 20000 in
theorem ggX2_filmsOnAll_X2_filmsOn : GoodIn wsX2_filmsOnAll wsX2_filmsOn := goodIn_r _ [5, 6, 7, 8, 9, 10, 11, 12, 13, 14] rfl (by decide +kernel)
set_option maxRecDepth 20000 in
theorem gX2_filmsOnAll_X2_filmsOn : GoodIn wsX2_filmsOnAll (wsV RX2 53 RX2 yX2_filmsOn wsX2_filmsOn) := goodIn_app (goodIn_r _ [1, 2, 3, 4] rfl (by decide +kernel)) ggX2_filmsOnAll_X2_filmsOn
set_option maxRecDepth 20000 in
theorem ggX2_filmsOf_X2_outsideOf : GoodIn wsX2_filmsOf wsX2_outsideOf := goodIn_r _ [5, 6, 7, 8, 9, 4, 10, 11, 12, 13, 14, 15, 16, 17, 18, 19] rfl (by decide +kernel)
set_option maxRecDepth 20000 in
theorem gX2_filmsOf_X2_outsideOf : GoodIn wsX2_filmsOf (wsV RX2 57 RX2 yX2_outsideOf wsX2_outsideOf) := goodIn_app (goodIn_r _ [1, 2, 3, 4] rfl (by decide +kernel)) ggX2_filmsOf_X2_outsideOf
set_option maxRecDepth 20000 in
theorem ggX2_wipe_X2_wipeCell : GoodIn wsX2_wipe wsX2_wipeCell := goodIn_r _ [10, 11, 1, 12, 13, 14, 15, 9, 16, 17, 18, 19, 20, 21, 22, 23, 24, 25] rfl (by decide +kernel)
set_option maxRecDepth 20000 in
theorem gX2_wipe_X2_wipeCell : GoodIn wsX2_wipe (wsV RX2 65 RX2 yX2_wipeCell wsX2_wipeCell) := goodIn_app (goodIn_r _ [6, 7, 8, 9] rfl (by decide +kernel)) ggX2_wipe_X2_wipeCell
set_option maxRecDepth 20000 in
theorem ggX2_wipeCell_X2_behind : GoodIn wsX2_wipeCell wsX2_behind := goodIn_r _ [8, 2, 9, 10, 11, 12, 13, 14, 15, 16, 17] rfl (by decide +kernel)
set_option maxRecDepth 20000 in
theorem gX2_wipeCell_X2_behind : GoodIn wsX2_wipeCell (wsV RX2 49 RX2 yX2_behind wsX2_behind) := goodIn_app (goodIn_r _ [4, 5, 6, 7] rfl (by decide +kernel)) ggX2_wipeCell_X2_behind
set_option maxRecDepth 20000 in
theorem ggX2_rinse_J7_fill_53178 : GoodIn wsX2_rinse wsJ7_fill_53178 := goodIn_r _ [6] rfl (by decide +kernel)
set_option maxRecDepth 20000 in
theorem gX2_rinse_J7_fill_53178 : GoodIn wsX2_rinse (va_wsS RX2 21 yJ7_fill_53178 wsJ7_fill_53178) := goodIn_app (goodIn_r _ [3, 4, 5] rfl (by decide +kernel)) ggX2_rinse_J7_fill_53178
set_option maxRecDepth 20000 in
theorem ggX2_smash_X2_isBroken : GoodIn wsX2_smash wsX2_isBroken := goodIn_r _ [7, 1, 8, 9, 10, 11, 12, 13, 14, 15] rfl (by decide +kernel)
set_option maxRecDepth 20000 in
theorem gX2_smash_X2_isBroken : GoodIn wsX2_smash (wsV RX2 69 RX2 yX2_isBroken wsX2_isBroken) := goodIn_app (goodIn_r _ [3, 4, 5, 6] rfl (by decide +kernel)) ggX2_smash_X2_isBroken
set_option maxRecDepth 20000 in
theorem ggX3_init_X3_forget : GoodIn wsX3_init wsX3_forget := goodIn_r _ [11, 5, 12, 13, 14, 15] rfl (by decide +kernel)
set_option maxRecDepth 20000 in
theorem gX3_init_X3_forget : GoodIn wsX3_init (wsV RX3 18 RX3 yX3_forget wsX3_forget) := goodIn_app (goodIn_r _ [7, 8, 9, 10] rfl (by decide +kernel)) ggX3_init_X3_forget
set_option maxRecDepth 20000 in
theorem ggX3_read_X3_readSum : GoodIn wsX3_read wsX3_readSum := goodIn_r _ [6, 7, 8, 9, 5, 10, 11, 12, 13, 14, 15, 16, 17, 18, 19, 20, 21, 22, 23, 24, 25, 26, 27, 28, 29, 30, 31, 32, 33, 34, 1, 35, 36, 37, 38, 39, 40, 41, 42, 43, 44, 45, 46, 47, 48, 49, 50, 51, 52, 53, 54, 55, 56, 57, 58, 59, 60, 61, 62, 63, 64, 65, 66, 67, 68, 69, 70, 71, 72, 73, 74, 75, 76, 77, 78, 79, 80, 81, 82, 83, 84, 85, 86, 87, 88, 89, 90, 91, 92, 93, 94, 95, 96, 97, 98, 99, 100, 101, 102, 103, 104, 105, 106, 107, 108, 2, 3, 4, 109, 110, 111, 112, 113, 121, 122, 123, 124, 125, 126, 127, 128, 129, 118, 119, 120] rfl (by decide +kernel)
set_option maxRecDepth 20000 in
theorem gX3_read_X3_readSum : GoodIn wsX3_read (wsV RX3 25 RX3 yX3_readSum wsX3_readSum) := goodIn_app (goodIn_r _ [2, 3, 4, 5] rfl (by decide +kernel)) ggX3_read_X3_readSum
set_option maxRecDepth 20000 in
theorem ggX3_read_X7_takeEnd : GoodIn wsX3_read wsX7_takeEnd := goodIn_r _ [117, 15, 22, 46, 47, 48, 13, 49, 17, 50, 121, 122, 123, 124, 125, 126, 127, 128, 129] rfl (by decide +kernel)
set_option maxRecDepth 20000 in
theorem gX3_read_X7_takeEnd : GoodIn wsX3_read (wsV RX3 29 RX7 yX7_takeEnd wsX7_takeEnd) := goodIn_app (goodIn_r _ [114, 115, 116, 13] rfl (by decide +kernel)) ggX3_read_X7_takeEnd
set_option maxRecDepth 20000 in
theorem ggX3_readSum_X3_readProduct : GoodIn wsX3_readSum wsX3_readProduct := goodIn_r _ [32, 33, 34, 35, 4, 5, 6, 7, 8, 9, 10, 11, 12, 13, 14, 15, 16, 17, 18, 19, 20, 21, 22, 23, 24, 25, 26, 27, 28, 29, 30, 31, 0, 1, 2, 3, 36, 37, 38, 39, 40, 41, 42, 43, 44, 45, 46, 47, 48, 49, 50, 51, 52, 53, 54, 55, 56, 57, 58, 59, 60, 61, 62, 63, 64, 65, 66, 67, 68, 69, 70, 71, 72, 73, 74, 75, 76, 77, 78, 79, 80, 81, 82, 83, 84, 85, 86, 87, 88, 89, 90, 91, 92, 93, 94, 95, 96, 97, 98, 99, 100, 101, 102, 103, 104, 105, 106, 107, 108, 109, 110, 111, 112, 113, 114, 115, 116, 117, 118, 119, 120, 121, 122, 123, 124] rfl (by decide +kernel)
set_option maxRecDepth 20000 in
theorem gX3_readSum_X3_readProduct : GoodIn wsX3_readSum (wsV RX3 35 RX3 yX3_readProduct wsX3_readProduct) := goodIn_app (goodIn_r _ [1, 2, 3, 4] rfl (by decide +kernel)) ggX3_readSum_X3_readProduct
set_option maxRecDepth 20000 in
theorem ggX3_readSum_X7_isSign : GoodIn wsX3_readSum wsX7_isSign := goodIn_r _ [9, 10, 11, 12, 113, 114, 115, 116, 117, 118, 119, 120, 121] rfl (by decide +kernel)
set_option maxRecDepth 20000 in
theorem gX3_readSum_X7_isSign : GoodIn wsX3_readSum (wsV RX3 38 RX7 yX7_isSign wsX7_isSign) := goodIn_app (goodIn_r _ [5, 6, 7, 8] rfl (by decide +kernel)) ggX3_readSum_X7_isSign
set_option maxRecDepth 20000 in
theorem ggX3_readSum_X7_step : GoodIn wsX3_readSum wsX7_step := goodIn_r _ [16, 17, 18, 12, 19, 11, 20, 21, 10, 22, 23, 24, 25, 113, 114, 115, 116, 117, 118, 119, 120, 121] rfl (by decide +kernel)
set_option maxRecDepth 20000 in
theorem gX3_readSum_X7_step : GoodIn wsX3_readSum (wsV RX3 42 RX7 yX7_step wsX7_step) := goodIn_app (goodIn_r _ [13, 14, 15, 8] rfl (by decide +kernel)) ggX3_readSum_X7_step
set_option maxRecDepth 20000 in
theorem ggX3_readSum_X3_put : GoodIn wsX3_readSum wsX3_put := goodIn_r _ [29, 30, 31, 122, 123, 124] rfl (by decide +kernel)
set_option maxRecDepth 20000 in
theorem gX3_readSum_X3_put : GoodIn wsX3_readSum (wsV RX3 45 RX3 yX3_put wsX3_put) := goodIn_app (goodIn_r _ [26, 27, 28, 4] rfl (by decide +kernel)) ggX3_readSum_X3_put
set_option maxRecDepth 20000 in
theorem ggX3_readProduct_X3_readUnit : GoodIn wsX3_readProduct wsX3_readUnit := goodIn_r _ [36, 37, 38, 39, 40, 8, 41, 10, 20, 42, 43, 44, 45, 17, 12, 46, 47, 14, 15, 16, 18, 19, 11, 21, 22, 23, 24, 25, 26, 27, 28, 4, 29, 30, 31, 48, 49, 50, 51, 52, 53, 54, 55, 56, 57, 58, 59, 60, 61, 62, 63, 64, 65, 66, 67, 68, 69, 70, 71, 72, 73, 74, 75, 76, 77, 78, 79, 80, 81, 82, 83, 84, 85, 86, 87, 88, 89, 90, 91, 92, 93, 94, 95, 96, 97, 98, 99, 100, 101, 102, 103, 13, 5, 6, 7, 9, 104, 105, 106, 107, 108, 109, 110, 111, 112, 0, 1, 2, 3, 32, 33, 34, 35, 113, 114, 115, 116, 117, 118, 119, 120, 121, 122, 123, 124] rfl (by decide +kernel)
set_option maxRecDepth 20000 in
theorem gX3_readProduct_X3_readUnit : GoodIn wsX3_readProduct (wsV RX3 49 RX3 yX3_readUnit wsX3_readUnit) := goodIn_app (goodIn_r _ [1, 2, 3, 4] rfl (by decide +kernel)) ggX3_readProduct_X3_readUnit
set_option maxRecDepth 20000 in
theorem ggX3_readProduct_X7_isSign : GoodIn wsX3_readProduct wsX7_isSign := goodIn_r _ [9, 10, 11, 12, 113, 114, 115, 116, 117, 118, 119, 120, 121] rfl (by decide +kernel)
set_option maxRecDepth 20000 in
theorem gX3_readProduct_X7_isSign : GoodIn wsX3_readProduct (wsV RX3 38 RX7 yX7_isSign wsX7_isSign) := goodIn_app (goodIn_r _ [5, 6, 7, 8] rfl (by decide +kernel)) ggX3_readProduct_X7_isSign
set_option maxRecDepth 20000 in
theorem ggX3_readProduct_X7_step : GoodIn wsX3_readProduct wsX7_step := goodIn_r _ [16, 17, 18, 12, 19, 11, 20, 21, 10, 22, 23, 24, 25, 113, 114, 115, 116, 117, 118, 119, 120, 121] rfl (by decide +kernel)
set_option maxRecDepth 20000 in
theorem gX3_readProduct_X7_step : GoodIn wsX3_readProduct (wsV RX3 42 RX7 yX7_step wsX7_step) := goodIn_app (goodIn_r _ [13, 14, 15, 8] rfl (by decide +kernel)) ggX3_readProduct_X7_step
set_option maxRecDepth 20000 in
theorem ggX3_readProduct_X3_put : GoodIn wsX3_readProduct wsX3_put := goodIn_r _ [29, 30, 31, 122, 123, 124] rfl (by decide +kernel)
set_option maxRecDepth 20000 in
theorem gX3_readProduct_X3_put : GoodIn wsX3_readProduct (wsV RX3 45 RX3 yX3_put wsX3_put) := goodIn_app (goodIn_r _ [26, 27, 28, 4] rfl (by decide +kernel)) ggX3_readProduct_X3_put
set_option maxRecDepth 20000 in
theorem ggX3_readUnit_X7_takeNumber : GoodIn wsX3_readUnit wsX7_takeNumber := goodIn_r _ [6, 7, 8, 9, 10, 11, 5, 12, 13, 14, 15, 16, 17, 18, 19, 20, 21, 22, 23, 24, 25, 26, 27, 113, 114, 115, 116, 117, 118, 119, 120, 121] rfl (by decide +kernel)
set_option maxRecDepth 20000 in
theorem gX3_readUnit_X7_takeNumber : GoodIn wsX3_readUnit (wsV RX3 55 RX7 yX7_takeNumber wsX7_takeNumber) := goodIn_app (goodIn_r _ [2, 3, 4, 5] rfl (by decide +kernel)) ggX3_readUnit_X7_takeNumber
set_option maxRecDepth 20000 in
theorem ggX3_readUnit_X3_put : GoodIn wsX3_readUnit wsX3_put := goodIn_r _ [32, 33, 34, 122, 123, 124] rfl (by decide +kernel)
set_option maxRecDepth 20000 in
theorem gX3_readUnit_X3_put : GoodIn wsX3_readUnit (wsV RX3 45 RX3 yX3_put wsX3_put) := goodIn_app (goodIn_r _ [28, 29, 30, 31] rfl (by decide +kernel)) ggX3_readUnit_X3_put
set_option maxRecDepth 20000 in
theorem ggX3_readUnit_X3_nameOf : GoodIn wsX3_readUnit wsX3_nameOf := goodIn_r _ [37, 38, 39, 40, 5, 41, 7, 20, 14, 22, 42, 43, 44, 45, 46, 47, 48, 49, 50, 51, 52, 53, 54, 55, 56, 57, 58, 59, 60, 61, 62, 63, 64, 65, 66, 67, 68, 69, 70, 71, 72, 73, 74, 75, 76, 77, 78, 79, 80, 81, 82, 83, 84, 85, 86, 87, 88, 89, 90, 113, 114, 115, 116, 117, 118, 119, 120, 121] rfl (by decide +kernel)
set_option maxRecDepth 20000 in
theorem gX3_readUnit_X3_nameOf : GoodIn wsX3_readUnit (va_wsS RX3 59 yX3_nameOf wsX3_nameOf) := goodIn_app (goodIn_r _ [35, 36, 31] rfl (by decide +kernel)) ggX3_readUnit_X3_nameOf
set_option maxRecDepth 20000 in
theorem ggX3_readUnit_X7_step : GoodIn wsX3_readUnit wsX7_step := goodIn_r _ [19, 13, 20, 14, 21, 22, 8, 23, 7, 24, 25, 26, 27, 113, 114, 115, 116, 117, 118, 119, 120, 121] rfl (by decide +kernel)
set_option maxRecDepth 20000 in
theorem gX3_readUnit_X7_step : GoodIn wsX3_readUnit (wsV RX3 42 RX7 yX7_step wsX7_step) := goodIn_app (goodIn_r _ [91, 17, 18, 5] rfl (by decide +kernel)) ggX3_readUnit_X7_step
set_option maxRecDepth 20000 in
theorem ggX3_readUnit_X7_isWord : GoodIn wsX3_readUnit wsX7_isWord := goodIn_r _ [41, 7, 20, 14, 22, 42, 43, 44, 45, 46, 47, 48, 49, 50, 51, 52, 53, 54, 55, 56, 57, 58, 59, 60, 61, 62, 63, 64, 65, 66, 67, 68, 69, 70, 71, 72, 73, 74, 75, 76, 77, 78, 79, 80, 81, 82, 83, 84, 85, 86, 87, 88, 89, 90, 113, 114, 115, 116, 117, 118, 119, 120, 121] rfl (by decide +kernel)
set_option maxRecDepth 20000 in
theorem gX3_readUnit_X7_isWord : GoodIn wsX3_readUnit (wsV RX3 65 RX7 yX7_isWord wsX7_isWord) := goodIn_app (goodIn_r _ [38, 39, 40, 5] rfl (by decide +kernel)) ggX3_readUnit_X7_isWord
set_option maxRecDepth 20000 in
theorem ggX3_readUnit_X7_isSign : GoodIn wsX3_readUnit wsX7_isSign := goodIn_r _ [95, 7, 22, 14, 113, 114, 115, 116, 117, 118, 119, 120, 121] rfl (by decide +kernel)
set_option maxRecDepth 20000 in
theorem gX3_readUnit_X7_isSign : GoodIn wsX3_readUnit (wsV RX3 38 RX7 yX7_isSign wsX7_isSign) := goodIn_app (goodIn_r _ [92, 93, 94, 5] rfl (by decide +kernel)) ggX3_readUnit_X7_isSign
set_option maxRecDepth 20000 in
theorem ggX3_readUnit_X7_wrong : GoodIn wsX3_readUnit wsX7_wrong := goodIn_r _ [12, 13, 14, 15, 7, 113, 114, 115, 116, 117, 118, 119, 120, 121] rfl (by decide +kernel)
set_option maxRecDepth 20000 in
theorem gX3_readUnit_X7_wrong : GoodIn wsX3_readUnit (wsV RX3 71 RX7 yX7_wrong wsX7_wrong) := goodIn_app (goodIn_r _ [96, 10, 11, 5] rfl (by decide +kernel)) ggX3_readUnit_X7_wrong
set_option maxRecDepth 20000 in
theorem ggX3_readUnit_X3_readSum : GoodIn wsX3_readUnit wsX3_readSum := goodIn_r _ [109, 110, 111, 112, 31, 92, 93, 94, 5, 95, 7, 22, 14, 91, 17, 18, 19, 13, 20, 21, 8, 23, 24, 25, 26, 27, 28, 29, 30, 32, 33, 34, 105, 106, 107, 108, 0, 1, 2, 3, 4, 6, 9, 10, 11, 12, 15, 16, 35, 36, 37, 38, 39, 40, 41, 42, 43, 44, 45, 46, 47, 48, 49, 50, 51, 52, 53, 54, 55, 56, 57, 58, 59, 60, 61, 62, 63, 64, 65, 66, 67, 68, 69, 70, 71, 72, 73, 74, 75, 76, 77, 78, 79, 80, 81, 82, 83, 84, 85, 86, 87, 88, 89, 90, 96, 97, 98, 99, 100, 101, 102, 103, 104, 113, 114, 115, 116, 117, 118, 119, 120, 121, 122, 123, 124] rfl (by decide +kernel)
set_option maxRecDepth 20000 in
theorem gX3_readUnit_X3_readSum : GoodIn wsX3_readUnit (wsV RX3 25 RX3 yX3_readSum wsX3_readSum) := goodIn_app (goodIn_r _ [97, 98, 99, 31] rfl (by decide +kernel)) ggX3_readUnit_X3_readSum
set_option maxRecDepth 20000 in
theorem ggX3_readUnit_X7_takeSign : GoodIn wsX3_readUnit wsX7_takeSign := goodIn_r _ [103, 104, 93, 94, 5, 95, 7, 22, 14, 16, 17, 18, 19, 13, 20, 21, 8, 23, 24, 25, 26, 27, 9, 10, 11, 12, 15, 113, 114, 115, 116, 117, 118, 119, 120, 121] rfl (by decide +kernel)
set_option maxRecDepth 20000 in
theorem gX3_readUnit_X7_takeSign : GoodIn wsX3_readUnit (wsV RX3 74 RX7 yX7_takeSign wsX7_takeSign) := goodIn_app (goodIn_r _ [100, 101, 102, 5] rfl (by decide +kernel)) ggX3_readUnit_X7_takeSign
set_option maxRecDepth 20000 in
theorem ggX3_nameOf_X7_isWord : GoodIn wsX3_nameOf wsX7_isWord := goodIn_r _ [5, 6, 7, 8, 9, 10, 11, 12, 13, 14, 15, 16, 17, 18, 19, 20, 21, 22, 23, 24, 25, 26, 27, 28, 29, 30, 31, 32, 33, 34, 35, 36, 37, 38, 39, 40, 41, 42, 43, 44, 45, 46, 47, 48, 49, 50, 51, 52, 53, 54, 55, 56, 57, 58, 59, 60, 61, 62, 63, 64, 65, 66, 67] rfl (by decide +kernel)
set_option maxRecDepth 20000 in
theorem gX3_nameOf_X7_isWord : GoodIn wsX3_nameOf (wsV RX3 65 RX7 yX7_isWord wsX7_isWord) := goodIn_app (goodIn_r _ [1, 2, 3, 4] rfl (by decide +kernel)) ggX3_nameOf_X7_isWord
set_option maxRecDepth 20000 in
theorem ggX4_init_X2_init : GoodIn wsX4_init wsX2_init := goodIn_r _ [10, 11, 2, 3, 12, 13, 14, 15, 16, 17, 18, 19, 20, 21, 22, 23] rfl (by decide +kernel)
set_option maxRecDepth 20000 in
theorem gX4_init_X2_init_n11 : GoodIn wsX4_init (wsX2_init) := ggX4_init_X2_init
set_option maxRecDepth 20000 in
theorem ggX4_forget_X2_forget : GoodIn wsX4_forget wsX2_forget := goodIn_r _ [7, 8, 9, 10, 11, 12, 13, 14, 15, 16, 17, 18, 22, 23, 24, 25, 26, 27, 28, 29] rfl (by decide +kernel)
set_option maxRecDepth 20000 in
theorem gX4_forget_X2_forget : GoodIn wsX4_forget (wsV RX4 22 RX2 yX2_forget wsX2_forget) := goodIn_app (goodIn_r _ [3, 4, 5, 6] rfl (by decide +kernel)) ggX4_forget_X2_forget
set_option maxRecDepth 20000 in
theorem ggX4_keep_X4_slot : GoodIn wsX4_keep wsX4_slot := goodIn_r _ [7, 8, 9, 10, 11, 12, 13, 14, 15, 16, 17, 18, 19, 20, 34, 35, 36, 37, 38, 39, 40, 41, 42, 43, 44] rfl (by decide +kernel)
set_option maxRecDepth 20000 in
theorem gX4_keep_X4_slot : GoodIn wsX4_keep (wsV RX4 29 RX4 yX4_slot wsX4_slot) := goodIn_app (goodIn_r _ [3, 4, 5, 6] rfl (by decide +kernel)) ggX4_keep_X4_slot
set_option maxRecDepth 20000 in
theorem ggX4_keep_X2_copy : GoodIn wsX4_keep wsX2_copy := goodIn_r _ [24, 18, 25, 26, 27, 28, 19, 20, 29, 30, 31, 32, 33, 37, 38, 39, 40, 41, 42, 43, 44] rfl (by decide +kernel)
set_option maxRecDepth 20000 in
theorem gX4_keep_X2_copy : GoodIn wsX4_keep (wsV RX4 33 RX2 yX2_copy wsX2_copy) := goodIn_app (goodIn_r _ [21, 22, 23, 11] rfl (by decide +kernel)) ggX4_keep_X2_copy
set_option maxRecDepth 20000 in
theorem ggX4_goBack_X4_slot : GoodIn wsX4_goBack wsX4_slot := goodIn_r _ [7, 8, 9, 10, 11, 12, 13, 14, 15, 16, 17, 18, 19, 20, 34, 35, 36, 37, 38, 39, 40, 41, 42, 43, 44] rfl (by decide +kernel)
set_option maxRecDepth 20000 in
theorem gX4_goBack_X4_slot : GoodIn wsX4_goBack (wsV RX4 29 RX4 yX4_slot wsX4_slot) := goodIn_app (goodIn_r _ [3, 4, 5, 6] rfl (by decide +kernel)) ggX4_goBack_X4_slot
set_option maxRecDepth 20000 in
theorem ggX4_goBack_X2_copy : GoodIn wsX4_goBack wsX2_copy := goodIn_r _ [24, 18, 25, 26, 27, 28, 19, 20, 29, 30, 31, 32, 33, 37, 38, 39, 40, 41, 42, 43, 44] rfl (by decide +kernel)
set_option maxRecDepth 20000 in
theorem gX4_goBack_X2_copy : GoodIn wsX4_goBack (wsV RX4 33 RX2 yX2_copy wsX2_copy) := goodIn_app (goodIn_r _ [21, 22, 23, 11] rfl (by decide +kernel)) ggX4_goBack_X2_copy
set_option maxRecDepth 20000 in
theorem ggX4_copy_X2_copy : GoodIn wsX4_copy wsX2_copy := goodIn_r _ [7, 8, 9, 10, 11, 12, 13, 14, 15, 16, 17, 18, 19, 37, 38, 39, 40, 41, 42, 43, 44] rfl (by decide +kernel)
set_option maxRecDepth 20000 in
theorem gX4_copy_X2_copy : GoodIn wsX4_copy (wsV RX4 33 RX2 yX2_copy wsX2_copy) := goodIn_app (goodIn_r _ [3, 4, 5, 6] rfl (by decide +kernel)) ggX4_copy_X2_copy
set_option maxRecDepth 20000 in
theorem ggX4_copy_X4_slot : GoodIn wsX4_copy wsX4_slot := goodIn_r _ [24, 25, 26, 27, 6, 28, 29, 30, 31, 32, 33, 8, 13, 14, 34, 35, 36, 37, 38, 39, 40, 41, 42, 43, 44] rfl (by decide +kernel)
set_option maxRecDepth 20000 in
theorem gX4_copy_X4_slot : GoodIn wsX4_copy (wsV RX4 29 RX4 yX4_slot wsX4_slot) := goodIn_app (goodIn_r _ [20, 21, 22, 23] rfl (by decide +kernel)) ggX4_copy_X4_slot
set_option maxRecDepth 20000 in
theorem ggX4_slot_X2_init : GoodIn wsX4_slot wsX2_init := goodIn_r _ [6, 7, 8, 9, 10, 11, 12, 13, 17, 18, 19, 20, 21, 22, 23, 24] rfl (by decide +kernel)
set_option maxRecDepth 20000 in
theorem gX4_slot_X2_init_n11 : GoodIn wsX4_slot (wsX2_init) := ggX4_slot_X2_init
set_option maxRecDepth 20000 in
theorem ggX5_walkFreely_J7_fill_53178 : GoodIn wsX5_walkFreely wsJ7_fill_53178 := goodIn_r _ [6] rfl (by decide +kernel)
set_option maxRecDepth 20000 in
theorem gX5_walkFreely_J7_fill_53178 : GoodIn wsX5_walkFreely (va_wsS RX5 16 yJ7_fill_53178 wsJ7_fill_53178) := goodIn_app (goodIn_r _ [3, 4, 5] rfl (by decide +kernel)) ggX5_walkFreely_J7_fill_53178
set_option maxRecDepth 20000 in
theorem ggX5_walkFreely_X5_walk : GoodIn wsX5_walkFreely wsX5_walk := goodIn_r _ [11, 12, 13, 14, 15, 16, 17, 18, 19, 20, 21, 22, 23, 10, 24, 25, 26, 27, 28, 29, 30, 31, 32, 1, 33, 34, 35, 36, 37, 38, 39, 40, 41, 42, 43, 44, 45, 46, 47, 48] rfl (by decide +kernel)
set_option maxRecDepth 20000 in
theorem gX5_walkFreely_X5_walk : GoodIn wsX5_walkFreely (wsV RX5 22 RX5 yX5_walk wsX5_walk) := goodIn_app (goodIn_r _ [7, 8, 9, 10] rfl (by decide +kernel)) ggX5_walkFreely_X5_walk
set_option maxRecDepth 20000 in
theorem ggX5_walkInTime_J7_fill_53178 : GoodIn wsX5_walkInTime wsJ7_fill_53178 := goodIn_r _ [11] rfl (by decide +kernel)
set_option maxRecDepth 20000 in
theorem gX5_walkInTime_J7_fill_53178 : GoodIn wsX5_walkInTime (va_wsS RX5 16 yJ7_fill_53178 wsJ7_fill_53178) := goodIn_app (goodIn_r _ [8, 9, 10] rfl (by decide +kernel)) ggX5_walkInTime_J7_fill_53178
set_option maxRecDepth 20000 in
theorem ggX5_walkInTime_X6_part : GoodIn wsX5_walkInTime wsX6_part := goodIn_r _ [16, 17, 39, 40, 41, 42, 43, 44, 45, 46, 47, 48, 49, 50, 51] rfl (by decide +kernel)
set_option maxRecDepth 20000 in
theorem gX5_walkInTime_X6_part : GoodIn wsX5_walkInTime (wsV RX5 32 RX6 yX6_part wsX6_part) := goodIn_app (goodIn_r _ [12, 13, 14, 15] rfl (by decide +kernel)) ggX5_walkInTime_X6_part
set_option maxRecDepth 20000 in
theorem ggX5_walkInTime_X5_walk : GoodIn wsX5_walkInTime wsX5_walk := goodIn_r _ [22, 23, 24, 3, 12, 13, 14, 15, 16, 17, 25, 26, 27, 21, 28, 29, 30, 31, 6, 32, 33, 34, 35, 1, 36, 37, 38, 39, 40, 41, 42, 43, 44, 45, 46, 47, 48, 49, 50, 51] rfl (by decide +kernel)
set_option maxRecDepth 20000 in
theorem gX5_walkInTime_X5_walk : GoodIn wsX5_walkInTime (wsV RX5 22 RX5 yX5_walk wsX5_walk) := goodIn_app (goodIn_r _ [18, 19, 20, 21] rfl (by decide +kernel)) ggX5_walkInTime_X5_walk
set_option maxRecDepth 20000 in
theorem ggX5_walk_X6_part : GoodIn wsX5_walk wsX6_part := goodIn_r _ [8, 9, 27, 28, 29, 30, 31, 32, 33, 34, 35, 36, 37, 38, 39] rfl (by decide +kernel)
set_option maxRecDepth 20000 in
theorem gX5_walk_X6_part : GoodIn wsX5_walk (wsV RX5 32 RX6 yX6_part wsX6_part) := goodIn_app (goodIn_r _ [4, 5, 6, 7] rfl (by decide +kernel)) ggX5_walk_X6_part
set_option maxRecDepth 20000 in
theorem ggX5_walk_X5_goOn : GoodIn wsX5_walk wsX5_goOn := goodIn_r _ [14, 1, 2, 15, 16, 17, 18, 19, 20, 21, 22, 23, 10, 11, 12, 13, 24, 25, 26, 27, 28, 29, 30, 31, 32, 33, 34, 35, 36, 37, 38, 39] rfl (by decide +kernel)
set_option maxRecDepth 20000 in
theorem gX5_walk_X5_goOn : GoodIn wsX5_walk (wsV RX5 47 RX5 yX5_goOn wsX5_goOn) := goodIn_app (goodIn_r _ [10, 11, 12, 13] rfl (by decide +kernel)) ggX5_walk_X5_goOn
set_option maxRecDepth 20000 in
theorem ggX5_goOn_X5_goOn : GoodIn wsX5_goOn wsX5_goOn := goodIn_r _ [0, 1, 2, 3, 4, 5, 6, 7, 8, 9, 10, 11, 12, 13, 14, 15, 16, 17, 18, 19, 20, 21, 22, 23, 24, 25, 26, 27, 28, 29, 30, 31] rfl (by decide +kernel)
set_option maxRecDepth 20000 in
theorem gX5_goOn_X5_goOn : GoodIn wsX5_goOn (wsV RX5 47 RX5 yX5_goOn wsX5_goOn) := goodIn_app (goodIn_r _ [12, 13, 14, 15] rfl (by decide +kernel)) ggX5_goOn_X5_goOn
set_option maxRecDepth 20000 in
theorem ggX6_init_X6_forget : GoodIn wsX6_init wsX6_forget := goodIn_r _ [16, 17, 18, 19, 20, 21, 22, 10, 23, 24, 25, 26, 27, 28, 29, 30, 31, 32, 33, 34, 35, 36, 37, 38, 39] rfl (by decide +kernel)
set_option maxRecDepth 20000 in
theorem gX6_init_X6_forget : GoodIn wsX6_init (wsV RX6 33 RX6 yX6_forget wsX6_forget) := goodIn_app (goodIn_r _ [12, 13, 14, 15] rfl (by decide +kernel)) ggX6_init_X6_forget
set_option maxRecDepth 20000 in
theorem ggX6_cellOf_X10_cellAt : GoodIn wsX6_cellOf wsX10_cellAt := goodIn_r _ [4] rfl (by decide +kernel)
set_option maxRecDepth 20000 in
theorem gX6_cellOf_X10_cellAt_n36 : GoodIn wsX6_cellOf (wsX10_cellAt) := ggX6_cellOf_X10_cellAt
set_option maxRecDepth 20000 in
theorem ggX6_read_X6_forget : GoodIn wsX6_read wsX6_forget := goodIn_r _ [7, 8, 9, 10, 11, 12, 13, 14, 15, 16, 17, 18, 150, 151, 152, 153, 154, 155, 156, 157, 158, 159, 160, 161, 162] rfl (by decide +kernel)
set_option maxRecDepth 20000 in
theorem gX6_read_X6_forget : GoodIn wsX6_read (wsV RX6 33 RX6 yX6_forget wsX6_forget) := goodIn_app (goodIn_r _ [3, 4, 5, 6] rfl (by decide +kernel)) ggX6_read_X6_forget
set_option maxRecDepth 20000 in
theorem ggX6_read_X6_readClause : GoodIn wsX6_read wsX6_readClause := goodIn_r _ [22, 23, 24, 6, 25, 26, 27, 28, 29, 30, 31, 32, 33, 34, 35, 36, 37, 38, 39, 40, 41, 42, 43, 44, 45, 46, 47, 48, 49, 50, 51, 52, 53, 54, 55, 56, 57, 58, 59, 60, 61, 62, 63, 64, 65, 66, 67, 68, 69, 70, 71, 72, 73, 74, 75, 76, 77, 78, 79, 80, 81, 82, 83, 84, 85, 86, 87, 88, 89, 90, 91, 92, 93, 8, 9, 10, 94, 95, 96, 97, 98, 99, 100, 101, 102, 103, 104, 105, 106, 107, 108, 14, 11, 12, 13, 109, 110, 111, 112, 113, 114, 115, 116, 117, 118, 119, 120, 121, 122, 123, 124, 125, 126, 127, 128, 129, 130, 131, 132, 133, 134, 135, 136, 141, 142, 143, 144, 145, 146, 147, 148, 149, 150, 151, 152, 153, 154, 155, 156, 157, 158, 159, 160, 161, 162] rfl (by decide +kernel)
set_option maxRecDepth 20000 in
theorem gX6_read_X6_readClause : GoodIn wsX6_read (wsV RX6 49 RX6 yX6_readClause wsX6_readClause) := goodIn_app (goodIn_r _ [19, 20, 21, 6] rfl (by decide +kernel)) ggX6_read_X6_readClause
set_option maxRecDepth 20000 in
theorem ggX6_read_X7_takeEnd : GoodIn wsX6_read wsX7_takeEnd := goodIn_r _ [140, 31, 88, 122, 85, 86, 29, 87, 33, 89, 141, 142, 143, 144, 145, 146, 147, 148, 149] rfl (by decide +kernel)
set_option maxRecDepth 20000 in
theorem gX6_read_X7_takeEnd : GoodIn wsX6_read (wsV RX6 53 RX7 yX7_takeEnd wsX7_takeEnd) := goodIn_app (goodIn_r _ [137, 138, 139, 29] rfl (by decide +kernel)) ggX6_read_X7_takeEnd
set_option maxRecDepth 20000 in
theorem ggX6_forget_J7_fill_53178 : GoodIn wsX6_forget wsJ7_fill_53178 := goodIn_r _ [11] rfl (by decide +kernel)
set_option maxRecDepth 20000 in
theorem gX6_forget_J7_fill_53178 : GoodIn wsX6_forget (va_wsS RX6 75 yJ7_fill_53178 wsJ7_fill_53178) := goodIn_app (goodIn_r _ [8, 9, 10] rfl (by decide +kernel)) ggX6_forget_J7_fill_53178
set_option maxRecDepth 20000 in
theorem ggX6_readClause_X6_clauseOf : GoodIn wsX6_readClause wsX6_clauseOf := goodIn_r _ [4, 5, 6, 7, 8, 9, 10, 11, 12, 13, 14, 15, 16, 17, 18, 19, 20, 21, 22, 23, 24, 25, 26, 27, 28, 29, 30, 31, 32, 33, 34, 35, 36, 37, 38, 39, 40, 41, 42, 43, 44, 45, 46, 47, 48, 49, 50, 51, 52, 53, 54, 55, 56, 57, 58, 59, 60, 61, 62, 123, 124, 125, 126, 127, 128, 129, 130, 131] rfl (by decide +kernel)
set_option maxRecDepth 20000 in
theorem gX6_readClause_X6_clauseOf : GoodIn wsX6_readClause (va_wsS RX6 81 yX6_clauseOf wsX6_clauseOf) := goodIn_app (goodIn_r _ [1, 2, 3] rfl (by decide +kernel)) ggX6_readClause_X6_clauseOf
set_option maxRecDepth 20000 in
theorem ggX6_readClause_X7_wrong : GoodIn wsX6_readClause wsX7_wrong := goodIn_r _ [66, 67, 12, 68, 10, 123, 124, 125, 126, 127, 128, 129, 130, 131] rfl (by decide +kernel)
set_option maxRecDepth 20000 in
theorem gX6_readClause_X7_wrong : GoodIn wsX6_readClause (wsV RX6 85 RX7 yX7_wrong wsX7_wrong) := goodIn_app (goodIn_r _ [63, 64, 65, 8] rfl (by decide +kernel)) ggX6_readClause_X7_wrong
set_option maxRecDepth 20000 in
theorem ggX6_readClause_X6_isFull : GoodIn wsX6_readClause wsX6_isFull := goodIn_r _ [72, 73, 74, 75, 132, 133, 134, 135, 136, 137, 138, 139, 140, 141, 142, 143, 144] rfl (by decide +kernel)
set_option maxRecDepth 20000 in
theorem gX6_readClause_X6_isFull : GoodIn wsX6_readClause (wsV RX6 89 RX6 yX6_isFull wsX6_isFull) := goodIn_app (goodIn_r _ [69, 70, 71, 3] rfl (by decide +kernel)) ggX6_readClause_X6_isFull
set_option maxRecDepth 20000 in
theorem ggX6_readClause_X7_step : GoodIn wsX6_readClause wsX7_step := goodIn_r _ [79, 67, 11, 12, 80, 13, 81, 82, 10, 83, 84, 85, 86, 123, 124, 125, 126, 127, 128, 129, 130, 131] rfl (by decide +kernel)
set_option maxRecDepth 20000 in
theorem gX6_readClause_X7_step : GoodIn wsX6_readClause (wsV RX6 93 RX7 yX7_step wsX7_step) := goodIn_app (goodIn_r _ [76, 77, 78, 8] rfl (by decide +kernel)) ggX6_readClause_X7_step
set_option maxRecDepth 20000 in
theorem ggX6_readClause_X6_readNumbers : GoodIn wsX6_readClause wsX6_readNumbers := goodIn_r _ [90, 91, 74, 92, 93, 94, 95, 96, 97, 3, 98, 99, 73, 100, 101, 102, 103, 104, 105, 106, 8, 107, 10, 81, 108, 64, 65, 66, 67, 12, 68, 109, 77, 78, 79, 11, 80, 13, 82, 83, 84, 85, 86, 110, 111, 112, 113, 75, 114, 132, 133, 134, 135, 136, 137, 138, 139, 140, 141, 142, 143, 144, 123, 124, 125, 126, 127, 128, 129, 130, 131] rfl (by decide +kernel)
set_option maxRecDepth 20000 in
theorem gX6_readClause_X6_readNumbers : GoodIn wsX6_readClause (wsV RX6 96 RX6 yX6_readNumbers wsX6_readNumbers) := goodIn_app (goodIn_r _ [87, 88, 89, 3] rfl (by decide +kernel)) ggX6_readClause_X6_readNumbers
set_option maxRecDepth 20000 in
theorem ggX6_readClause_X7_takeSign : GoodIn wsX6_readClause wsX7_takeSign := goodIn_r _ [118, 119, 120, 121, 8, 122, 10, 13, 12, 109, 77, 78, 79, 67, 11, 80, 81, 82, 83, 84, 85, 86, 108, 64, 65, 66, 68, 123, 124, 125, 126, 127, 128, 129, 130, 131] rfl (by decide +kernel)
set_option maxRecDepth 20000 in
theorem gX6_readClause_X7_takeSign : GoodIn wsX6_readClause (wsV RX6 99 RX7 yX7_takeSign wsX7_takeSign) := goodIn_app (goodIn_r _ [115, 116, 117, 8] rfl (by decide +kernel)) ggX6_readClause_X7_takeSign
set_option maxRecDepth 20000 in
theorem ggX6_clauseOf_X7_isWord : GoodIn wsX6_clauseOf wsX7_isWord := goodIn_r _ [5, 6, 7, 8, 9, 10, 11, 12, 13, 14, 15, 16, 17, 18, 19, 20, 21, 22, 23, 24, 25, 26, 27, 28, 29, 30, 31, 32, 33, 34, 35, 36, 37, 38, 39, 40, 41, 42, 43, 44, 45, 46, 47, 48, 49, 50, 51, 52, 53, 54, 55, 56, 57, 58, 59, 60, 61, 62, 63, 64, 65, 66, 67] rfl (by decide +kernel)
set_option maxRecDepth 20000 in
theorem gX6_clauseOf_X7_isWord : GoodIn wsX6_clauseOf (wsV RX6 105 RX7 yX7_isWord wsX7_isWord) := goodIn_app (goodIn_r _ [1, 2, 3, 4] rfl (by decide +kernel)) ggX6_clauseOf_X7_isWord
set_option maxRecDepth 20000 in
theorem ggX6_readNumbers_X6_readPane : GoodIn wsX6_readNumbers wsX6_readPane := goodIn_r _ [10, 11, 12, 13, 14, 15, 16, 17, 18, 19, 20, 21, 22, 23, 24, 25, 26, 27, 28, 29, 30, 31, 32, 33, 34, 35, 36, 37, 38, 39, 40, 41, 42, 49, 50, 51, 52, 53, 54, 55, 56, 57, 58, 59, 60, 61, 62, 63, 64, 65, 66, 67, 68, 69, 70] rfl (by decide +kernel)
set_option maxRecDepth 20000 in
theorem gX6_readNumbers_X6_readPane : GoodIn wsX6_readNumbers (wsV RX6 115 RX6 yX6_readPane wsX6_readPane) := goodIn_app (goodIn_r _ [6, 7, 8, 9] rfl (by decide +kernel)) ggX6_readNumbers_X6_readPane
set_option maxRecDepth 20000 in
theorem ggX6_readNumbers_X7_takeNumber : GoodIn wsX6_readNumbers wsX7_takeNumber := goodIn_r _ [21, 22, 23, 24, 25, 26, 20, 27, 28, 29, 30, 31, 32, 33, 34, 35, 36, 37, 38, 39, 40, 41, 42, 62, 63, 64, 65, 66, 67, 68, 69, 70] rfl (by decide +kernel)
set_option maxRecDepth 20000 in
theorem gX6_readNumbers_X7_takeNumber : GoodIn wsX6_readNumbers (wsV RX6 119 RX7 yX7_takeNumber wsX7_takeNumber) := goodIn_app (goodIn_r _ [17, 18, 19, 20] rfl (by decide +kernel)) ggX6_readNumbers_X7_takeNumber
set_option maxRecDepth 20000 in
theorem ggX6_readNumbers_X6_readOrder : GoodIn wsX6_readNumbers wsX6_readOrder := goodIn_r _ [46, 47, 12, 48, 11, 13, 17, 18, 19, 20, 21, 22, 23, 24, 25, 26, 27, 28, 29, 30, 31, 32, 33, 34, 35, 36, 37, 38, 39, 40, 41, 42, 49, 50, 51, 52, 53, 54, 55, 56, 57, 58, 59, 60, 61, 62, 63, 64, 65, 66, 67, 68, 69, 70] rfl (by decide +kernel)
set_option maxRecDepth 20000 in
theorem gX6_readNumbers_X6_readOrder : GoodIn wsX6_readNumbers (wsV RX6 123 RX6 yX6_readOrder wsX6_readOrder) := goodIn_app (goodIn_r _ [43, 44, 45, 9] rfl (by decide +kernel)) ggX6_readNumbers_X6_readOrder
set_option maxRecDepth 20000 in
theorem ggX6_readPane_X7_takeNumber : GoodIn wsX6_readPane wsX7_takeNumber := goodIn_r _ [11, 12, 13, 14, 15, 16, 10, 17, 18, 19, 20, 21, 22, 23, 24, 25, 26, 27, 28, 29, 30, 31, 32, 46, 47, 48, 49, 50, 51, 52, 53, 54] rfl (by decide +kernel)
set_option maxRecDepth 20000 in
theorem gX6_readPane_X7_takeNumber : GoodIn wsX6_readPane (wsV RX6 119 RX7 yX7_takeNumber wsX7_takeNumber) := goodIn_app (goodIn_r _ [7, 8, 9, 10] rfl (by decide +kernel)) ggX6_readPane_X7_takeNumber
set_option maxRecDepth 20000 in
theorem ggX6_readOrder_X7_takeNumber : GoodIn wsX6_readOrder wsX7_takeNumber := goodIn_r _ [10, 11, 12, 13, 14, 15, 9, 16, 17, 18, 19, 20, 21, 22, 23, 24, 25, 26, 27, 28, 29, 30, 31, 45, 46, 47, 48, 49, 50, 51, 52, 53] rfl (by decide +kernel)
set_option maxRecDepth 20000 in
theorem gX6_readOrder_X7_takeNumber : GoodIn wsX6_readOrder (wsV RX6 119 RX7 yX7_takeNumber wsX7_takeNumber) := goodIn_app (goodIn_r _ [6, 7, 8, 9] rfl (by decide +kernel)) ggX6_readOrder_X7_takeNumber
set_option maxRecDepth 20000 in
theorem ggX7_begin_X7_step : GoodIn wsX7_begin wsX7_step := goodIn_r _ [9, 3, 2, 10, 1, 11, 12, 13, 14, 15, 16, 17, 18, 19, 20, 21, 22, 23, 24, 25, 26, 27] rfl (by decide +kernel)
set_option maxRecDepth 20000 in
theorem gX7_begin_X7_step : GoodIn wsX7_begin (wsV RX7 31 RX7 yX7_step wsX7_step) := goodIn_app (goodIn_r _ [5, 6, 7, 8] rfl (by decide +kernel)) ggX7_begin_X7_step
set_option maxRecDepth 20000 in
theorem ggX7_isWord_J0_length_8abf5 : GoodIn wsX7_isWord wsJ0_length_8abf5 := goodIn_r _ [9, 10, 11, 12, 13, 8, 14, 15, 16] rfl (by decide +kernel)
set_option maxRecDepth 20000 in
theorem gX7_isWord_J0_length_8abf5 : GoodIn wsX7_isWord (wsV RX7 50 RJ0 yJ0_length_8abf5 wsJ0_length_8abf5) := goodIn_app (goodIn_r _ [5, 6, 7, 8] rfl (by decide +kernel)) ggX7_isWord_J0_length_8abf5
set_option maxRecDepth 20000 in
theorem ggX7_isWord_J0_charAt_5068e : GoodIn wsX7_isWord wsJ0_charAt_5068e := goodIn_r _ [20, 10, 21, 22, 23, 8, 24, 15, 16, 25, 26, 27, 28, 29, 30, 31, 32, 33, 34, 35, 36, 37, 38, 39, 40, 41, 42, 43, 44, 45, 46, 47, 48, 49, 50, 51, 52, 53] rfl (by decide +kernel)
set_option maxRecDepth 20000 in
theorem gX7_isWord_J0_charAt_5068e : GoodIn wsX7_isWord (wsV RX7 55 RJ0 yJ0_charAt_5068e wsJ0_charAt_5068e) := goodIn_app (goodIn_r _ [17, 18, 19, 8] rfl (by decide +kernel)) ggX7_isWord_J0_charAt_5068e
set_option maxRecDepth 20000 in
theorem ggX7_takeSign_X7_isSign : GoodIn wsX7_takeSign wsX7_isSign := goodIn_r _ [5, 6, 7, 8, 27, 28, 29, 30, 31, 32, 33, 34, 35] rfl (by decide +kernel)
set_option maxRecDepth 20000 in
theorem gX7_takeSign_X7_isSign : GoodIn wsX7_takeSign (wsV RX7 59 RX7 yX7_isSign wsX7_isSign) := goodIn_app (goodIn_r _ [1, 2, 3, 4] rfl (by decide +kernel)) ggX7_takeSign_X7_isSign
set_option maxRecDepth 20000 in
theorem ggX7_takeSign_X7_step : GoodIn wsX7_takeSign wsX7_step := goodIn_r _ [12, 13, 14, 8, 15, 7, 16, 17, 6, 18, 19, 20, 21, 27, 28, 29, 30, 31, 32, 33, 34, 35] rfl (by decide +kernel)
set_option maxRecDepth 20000 in
theorem gX7_takeSign_X7_step : GoodIn wsX7_takeSign (wsV RX7 31 RX7 yX7_step wsX7_step) := goodIn_app (goodIn_r _ [9, 10, 11, 4] rfl (by decide +kernel)) ggX7_takeSign_X7_step
set_option maxRecDepth 20000 in
theorem ggX7_takeSign_X7_wrong : GoodIn wsX7_takeSign wsX7_wrong := goodIn_r _ [25, 13, 8, 26, 6, 27, 28, 29, 30, 31, 32, 33, 34, 35] rfl (by decide +kernel)
set_option maxRecDepth 20000 in
theorem gX7_takeSign_X7_wrong : GoodIn wsX7_takeSign (wsV RX7 63 RX7 yX7_wrong wsX7_wrong) := goodIn_app (goodIn_r _ [22, 23, 24, 4] rfl (by decide +kernel)) ggX7_takeSign_X7_wrong
set_option maxRecDepth 20000 in
theorem ggX7_takeNumber_X7_wrong : GoodIn wsX7_takeNumber wsX7_wrong := goodIn_r _ [7, 8, 9, 10, 1, 23, 24, 25, 26, 27, 28, 29, 30, 31] rfl (by decide +kernel)
set_option maxRecDepth 20000 in
theorem gX7_takeNumber_X7_wrong : GoodIn wsX7_takeNumber (wsV RX7 63 RX7 yX7_wrong wsX7_wrong) := goodIn_app (goodIn_r _ [3, 4, 5, 6] rfl (by decide +kernel)) ggX7_takeNumber_X7_wrong
set_option maxRecDepth 20000 in
theorem ggX7_takeNumber_X7_step : GoodIn wsX7_takeNumber wsX7_step := goodIn_r _ [14, 8, 15, 9, 16, 17, 2, 18, 1, 19, 20, 21, 22, 23, 24, 25, 26, 27, 28, 29, 30, 31] rfl (by decide +kernel)
set_option maxRecDepth 20000 in
theorem gX7_takeNumber_X7_step : GoodIn wsX7_takeNumber (wsV RX7 31 RX7 yX7_step wsX7_step) := goodIn_app (goodIn_r _ [11, 12, 13, 6] rfl (by decide +kernel)) ggX7_takeNumber_X7_step
set_option maxRecDepth 20000 in
theorem ggX7_takeEnd_X7_wrong : GoodIn wsX7_takeEnd wsX7_wrong := goodIn_r _ [7, 2, 8, 9, 1, 10, 11, 12, 13, 14, 15, 16, 17, 18] rfl (by decide +kernel)
set_option maxRecDepth 20000 in
theorem gX7_takeEnd_X7_wrong : GoodIn wsX7_takeEnd (wsV RX7 63 RX7 yX7_wrong wsX7_wrong) := goodIn_app (goodIn_r _ [3, 4, 5, 6] rfl (by decide +kernel)) ggX7_takeEnd_X7_wrong
set_option maxRecDepth 20000 in
theorem ggX8_init_X2_init : GoodIn wsX8_init wsX2_init := goodIn_r _ [12, 13, 2, 3, 8, 14, 15, 16, 17, 18, 19, 20, 21, 22, 23, 24] rfl (by decide +kernel)
set_option maxRecDepth 20000 in
theorem gX8_init_X2_init_n11 : GoodIn wsX8_init (wsX2_init) := ggX8_init_X2_init
set_option maxRecDepth 20000 in
theorem ggX8_passDay_X8_judgeOrders : GoodIn wsX8_passDay wsX8_judgeOrders := goodIn_r _ [8, 9, 1, 10, 11, 12, 13, 14, 15, 16, 17, 18, 19, 20, 21, 22, 23, 24, 25, 26, 27, 28, 29, 30, 82, 83, 84, 85, 86, 87, 88, 89, 90, 91, 92, 93, 94, 74, 75, 76, 77, 78, 79, 80, 81] rfl (by decide +kernel)
set_option maxRecDepth 20000 in
theorem gX8_passDay_X8_judgeOrders : GoodIn wsX8_passDay (va_wsS RX8 31 yX8_judgeOrders wsX8_judgeOrders) := goodIn_app (goodIn_r _ [5, 6, 7] rfl (by decide +kernel)) ggX8_passDay_X8_judgeOrders
set_option maxRecDepth 20000 in
theorem ggX8_passDay_X2_wash : GoodIn wsX8_passDay wsX2_wash := goodIn_r _ [34, 29, 35, 36, 37, 38, 74, 75, 76, 77, 78, 79, 80, 81] rfl (by decide +kernel)
set_option maxRecDepth 20000 in
theorem gX8_passDay_X2_wash : GoodIn wsX8_passDay (wsV RX8 46 RX2 yX2_wash wsX2_wash) := goodIn_app (goodIn_r _ [31, 32, 33, 27] rfl (by decide +kernel)) ggX8_passDay_X2_wash
set_option maxRecDepth 20000 in
theorem ggX8_passDay_X8_settleOn : GoodIn wsX8_passDay wsX8_settleOn := goodIn_r _ [42, 43, 1, 2, 44, 45, 46, 47, 48, 27, 49, 50, 51, 52, 53, 7, 54, 55, 56, 24, 25, 26, 28, 29, 30, 57, 58, 59, 60, 61, 62, 63, 64, 65, 66, 67, 68, 69, 70, 71, 72, 73, 95, 96, 97, 98, 99, 100, 74, 75, 76, 77, 78, 79, 80, 81, 82, 83, 84, 85, 86, 87, 88, 89, 90, 91, 92, 93, 94, 101, 102, 103] rfl (by decide +kernel)
set_option maxRecDepth 20000 in
theorem gX8_passDay_X8_settleOn : GoodIn wsX8_passDay (wsV RX8 50 RX8 yX8_settleOn wsX8_settleOn) := goodIn_app (goodIn_r _ [39, 40, 41, 7] rfl (by decide +kernel)) ggX8_passDay_X8_settleOn
set_option maxRecDepth 20000 in
theorem ggX8_judgeOrders_X6_part : GoodIn wsX8_judgeOrders wsX6_part := goodIn_r _ [8, 9, 24, 25, 26, 27, 28, 29, 30, 31, 32, 33, 34, 35, 36] rfl (by decide +kernel)
set_option maxRecDepth 20000 in
theorem gX8_judgeOrders_X6_part : GoodIn wsX8_judgeOrders (wsV RX8 57 RX6 yX6_part wsX6_part) := goodIn_app (goodIn_r _ [4, 5, 6, 7] rfl (by decide +kernel)) ggX8_judgeOrders_X6_part
set_option maxRecDepth 20000 in
theorem ggX8_judgeOrders_X6_cellOf : GoodIn wsX8_judgeOrders wsX6_cellOf := goodIn_r _ [13, 9, 14, 15, 16, 24, 25, 26, 27, 28, 29, 30, 31, 32, 33, 34, 35, 36] rfl (by decide +kernel)
set_option maxRecDepth 20000 in
theorem gX8_judgeOrders_X6_cellOf : GoodIn wsX8_judgeOrders (wsV RX8 60 RX6 yX6_cellOf wsX6_cellOf) := goodIn_app (goodIn_r _ [10, 11, 12, 7] rfl (by decide +kernel)) ggX8_judgeOrders_X6_cellOf
set_option maxRecDepth 20000 in
theorem ggX8_judgeOrders_X2_shown : GoodIn wsX8_judgeOrders wsX2_shown := goodIn_r _ [21, 22, 23, 37, 38, 39, 40, 41, 42, 43, 44] rfl (by decide +kernel)
set_option maxRecDepth 20000 in
theorem gX8_judgeOrders_X2_shown : GoodIn wsX8_judgeOrders (wsV RX8 64 RX2 yX2_shown wsX2_shown) := goodIn_app (goodIn_r _ [17, 18, 19, 20] rfl (by decide +kernel)) ggX8_judgeOrders_X2_shown
set_option maxRecDepth 20000 in
theorem ggX8_settleOn_X2_isBroken : GoodIn wsX8_settleOn wsX2_isBroken := goodIn_r _ [10, 11, 48, 49, 50, 51, 52, 53, 54, 55] rfl (by decide +kernel)
set_option maxRecDepth 20000 in
theorem gX8_settleOn_X2_isBroken : GoodIn wsX8_settleOn (wsV RX8 70 RX2 yX2_isBroken wsX2_isBroken) := goodIn_app (goodIn_r _ [6, 7, 8, 9] rfl (by decide +kernel)) ggX8_settleOn_X2_isBroken
set_option maxRecDepth 20000 in
theorem ggX8_settleOn_X8_lawHolds : GoodIn wsX8_settleOn wsX8_lawHolds := goodIn_r _ [16, 1, 17, 18, 19, 20, 21, 9, 22, 23, 24, 25, 26, 27, 28, 29, 30, 31, 32, 42, 43, 44, 45, 46, 47, 56, 57, 58, 59, 60, 61, 62, 63, 64, 65, 66, 67, 68, 48, 49, 50, 51, 52, 53, 54, 55, 69, 70, 71] rfl (by decide +kernel)
set_option maxRecDepth 20000 in
theorem gX8_settleOn_X8_lawHolds : GoodIn wsX8_settleOn (wsV RX8 77 RX8 yX8_lawHolds wsX8_lawHolds) := goodIn_app (goodIn_r _ [12, 13, 14, 15] rfl (by decide +kernel)) ggX8_settleOn_X8_lawHolds
set_option maxRecDepth 20000 in
theorem ggX8_settleOn_X2_settle : GoodIn wsX8_settleOn wsX2_settle := goodIn_r _ [36, 23, 24, 37, 38, 39, 40, 41, 48, 49, 50, 51, 52, 53, 54, 55] rfl (by decide +kernel)
set_option maxRecDepth 20000 in
theorem gX8_settleOn_X2_settle : GoodIn wsX8_settleOn (wsV RX8 84 RX2 yX2_settle wsX2_settle) := goodIn_app (goodIn_r _ [33, 34, 35, 9] rfl (by decide +kernel)) ggX8_settleOn_X2_settle
set_option maxRecDepth 20000 in
theorem ggX8_lawHolds_X2_shown : GoodIn wsX8_lawHolds wsX2_shown := goodIn_r _ [8, 9, 10, 38, 39, 40, 41, 42, 43, 44, 45] rfl (by decide +kernel)
set_option maxRecDepth 20000 in
theorem gX8_lawHolds_X2_shown : GoodIn wsX8_lawHolds (wsV RX8 64 RX2 yX2_shown wsX2_shown) := goodIn_app (goodIn_r _ [4, 5, 6, 7] rfl (by decide +kernel)) ggX8_lawHolds_X2_shown
set_option maxRecDepth 20000 in
theorem ggX8_lawHolds_X3_valueFor : GoodIn wsX8_lawHolds wsX3_valueFor := goodIn_r _ [15, 16, 17, 18, 46, 47, 48] rfl (by decide +kernel)
set_option maxRecDepth 20000 in
theorem gX8_lawHolds_X3_valueFor : GoodIn wsX8_lawHolds (wsV RX8 94 RX3 yX3_valueFor wsX3_valueFor) := goodIn_app (goodIn_r _ [11, 12, 13, 14] rfl (by decide +kernel)) ggX8_lawHolds_X3_valueFor
set_option maxRecDepth 20000 in
theorem ggX8_wouldSettle_X8_lawHolds : GoodIn wsX8_wouldSettle wsX8_lawHolds := goodIn_r _ [7, 1, 8, 9, 10, 11, 12, 13, 14, 15, 16, 17, 18, 19, 20, 21, 22, 23, 24, 25, 26, 27, 28, 29, 30, 39, 40, 41, 42, 43, 44, 45, 46, 47, 48, 49, 50, 51, 31, 32, 33, 34, 35, 36, 37, 38, 52, 53, 54] rfl (by decide +kernel)
set_option maxRecDepth 20000 in
theorem gX8_wouldSettle_X8_lawHolds : GoodIn wsX8_wouldSettle (wsV RX8 77 RX8 yX8_lawHolds wsX8_lawHolds) := goodIn_app (goodIn_r _ [3, 4, 5, 6] rfl (by decide +kernel)) ggX8_wouldSettle_X8_lawHolds
set_option maxRecDepth 20000 in
theorem ggX8_foresee_X2_copy : GoodIn wsX8_foresee wsX2_copy := goodIn_r _ [10, 11, 12, 13, 14, 15, 16, 17, 18, 19, 20, 21, 22, 71, 72, 73, 74, 75, 76, 77, 78] rfl (by decide +kernel)
set_option maxRecDepth 20000 in
theorem gX8_foresee_X2_copy : GoodIn wsX8_foresee (wsV RX8 98 RX2 yX2_copy wsX2_copy) := goodIn_app (goodIn_r _ [6, 7, 8, 9] rfl (by decide +kernel)) ggX8_foresee_X2_copy
set_option maxRecDepth 20000 in
theorem ggX8_foresee_X2_wash : GoodIn wsX8_foresee wsX2_wash := goodIn_r _ [26, 16, 27, 28, 29, 30, 71, 72, 73, 74, 75, 76, 77, 78] rfl (by decide +kernel)
set_option maxRecDepth 20000 in
theorem gX8_foresee_X2_wash : GoodIn wsX8_foresee (wsV RX8 46 RX2 yX2_wash wsX2_wash) := goodIn_app (goodIn_r _ [23, 24, 25, 9] rfl (by decide +kernel)) ggX8_foresee_X2_wash
set_option maxRecDepth 20000 in
theorem ggX8_foresee_X8_settleOn : GoodIn wsX8_foresee wsX8_settleOn := goodIn_r _ [35, 36, 2, 4, 37, 38, 39, 40, 41, 9, 42, 21, 43, 44, 45, 34, 46, 47, 48, 49, 50, 51, 52, 16, 11, 53, 54, 55, 56, 57, 58, 59, 60, 61, 62, 63, 64, 12, 13, 14, 15, 19, 65, 66, 67, 68, 69, 70, 71, 72, 73, 74, 75, 76, 77, 78, 79, 80, 81, 82, 83, 84, 85, 86, 87, 88, 89, 90, 91, 92, 93, 94] rfl (by decide +kernel)
set_option maxRecDepth 20000 in
theorem gX8_foresee_X8_settleOn : GoodIn wsX8_foresee (wsV RX8 50 RX8 yX8_settleOn wsX8_settleOn) := goodIn_app (goodIn_r _ [31, 32, 33, 34] rfl (by decide +kernel)) ggX8_foresee_X8_settleOn
set_option maxRecDepth 20000 in
theorem ggX8_drawDecade_X2_filmsOn : GoodIn wsX8_drawDecade wsX2_filmsOn := goodIn_r _ [11, 12, 19, 20, 21, 22, 23, 24, 25, 26] rfl (by decide +kernel)
set_option maxRecDepth 20000 in
theorem gX8_drawDecade_X2_filmsOn : GoodIn wsX8_drawDecade (wsV RX8 112 RX2 yX2_filmsOn wsX2_filmsOn) := goodIn_app (goodIn_r _ [7, 8, 9, 10] rfl (by decide +kernel)) ggX8_drawDecade_X2_filmsOn
set_option maxRecDepth 20000 in
theorem ggX9_read_X9_readSteps : GoodIn wsX9_read wsX9_readSteps := goodIn_r _ [6, 7, 8, 9, 10, 5, 11, 12, 13, 14, 15, 16, 17, 18, 19, 20, 21, 22, 23, 24, 25, 26, 27, 28, 29, 30, 31, 32, 33, 34, 35, 36, 37, 38, 39, 40, 41, 1, 42, 43, 44, 45, 46, 47, 48, 49, 50, 51, 52, 53, 54, 55, 56, 57, 58, 59, 60, 61, 62, 63, 64, 65, 66, 67, 68, 69, 70, 71, 72, 73, 74, 75, 76, 77, 78, 79, 80, 81, 82, 83, 84, 85, 86, 87, 88, 89, 90, 91, 92, 93, 94, 95, 96, 97, 98, 99, 100, 101, 102, 103, 104, 105, 106, 2, 3, 4, 107, 108, 109, 110, 111, 112, 113, 114, 115, 116, 117, 122, 123, 124, 125, 126, 127, 128, 129, 130, 131, 132, 133, 134, 135, 136, 137, 138, 139, 140, 141, 142, 143, 144, 145, 146, 147, 148, 149, 150, 151, 152, 153, 154, 155, 156] rfl (by decide +kernel)
set_option maxRecDepth 20000 in
theorem gX9_read_X9_readSteps : GoodIn wsX9_read (wsV RX9 45 RX9 yX9_readSteps wsX9_readSteps) := goodIn_app (goodIn_r _ [2, 3, 4, 5] rfl (by decide +kernel)) ggX9_read_X9_readSteps
set_option maxRecDepth 20000 in
theorem ggX9_read_X7_takeEnd : GoodIn wsX9_read wsX7_takeEnd := goodIn_r _ [121, 20, 27, 36, 37, 38, 14, 39, 22, 40, 135, 136, 137, 138, 139, 140, 141, 142, 143] rfl (by decide +kernel)
set_option maxRecDepth 20000 in
theorem gX9_read_X7_takeEnd : GoodIn wsX9_read (wsV RX9 49 RX7 yX7_takeEnd wsX7_takeEnd) := goodIn_app (goodIn_r _ [118, 119, 120, 14] rfl (by decide +kernel)) ggX9_read_X7_takeEnd
set_option maxRecDepth 20000 in
theorem ggX9_readSteps_X9_readStep : GoodIn wsX9_readSteps wsX9_readStep := goodIn_r _ [36, 37, 38, 39, 40, 41, 42, 5, 43, 44, 45, 46, 9, 47, 15, 23, 17, 16, 48, 49, 50, 51, 52, 53, 54, 55, 56, 57, 58, 59, 60, 61, 62, 63, 64, 65, 66, 67, 68, 69, 70, 71, 72, 73, 74, 75, 76, 77, 78, 79, 80, 81, 82, 83, 84, 85, 86, 87, 88, 89, 90, 91, 92, 93, 94, 95, 96, 97, 32, 33, 34, 22, 35, 98, 19, 20, 21, 24, 25, 26, 27, 28, 29, 30, 99, 100, 101, 102, 31, 18, 6, 7, 8, 10, 11, 12, 13, 14, 103, 104, 105, 106, 107, 108, 109, 110, 111, 112, 113, 114, 115, 116, 0, 1, 2, 3, 4, 117, 118, 119, 120, 121, 122, 123, 124, 125, 126, 127, 128, 129, 130, 131, 132, 133, 134, 135, 136, 137, 138, 139, 140, 141, 142, 143, 144, 145, 146, 147, 148, 149, 150, 151] rfl (by decide +kernel)
set_option maxRecDepth 20000 in
theorem gX9_readSteps_X9_readStep : GoodIn wsX9_readSteps (wsV RX9 57 RX9 yX9_readStep wsX9_readStep) := goodIn_app (goodIn_r _ [2, 3, 4, 5] rfl (by decide +kernel)) ggX9_readSteps_X9_readStep
set_option maxRecDepth 20000 in
theorem ggX9_readSteps_X7_takeSign : GoodIn wsX9_readSteps wsX7_takeSign := goodIn_r _ [10, 11, 12, 13, 9, 14, 15, 16, 17, 18, 19, 20, 21, 22, 23, 24, 25, 26, 27, 28, 29, 30, 31, 32, 33, 34, 35, 130, 131, 132, 133, 134, 135, 136, 137, 138] rfl (by decide +kernel)
set_option maxRecDepth 20000 in
theorem gX9_readSteps_X7_takeSign : GoodIn wsX9_readSteps (wsV RX9 60 RX7 yX7_takeSign wsX7_takeSign) := goodIn_app (goodIn_r _ [6, 7, 8, 9] rfl (by decide +kernel)) ggX9_readSteps_X7_takeSign
set_option maxRecDepth 20000 in
theorem ggX9_readStep_X9_kindOf : GoodIn wsX9_readStep wsX9_kindOf := goodIn_r _ [8, 9, 10, 11, 12, 13, 14, 15, 16, 17, 18, 19, 20, 21, 22, 23, 24, 25, 26, 27, 28, 29, 30, 31, 32, 33, 34, 35, 36, 37, 38, 39, 40, 41, 42, 43, 44, 45, 46, 47, 48, 49, 50, 51, 52, 53, 54, 55, 56, 57, 58, 59, 60, 61, 62, 63, 64, 65, 66, 130, 131, 132, 133, 134, 135, 136, 137, 138] rfl (by decide +kernel)
set_option maxRecDepth 20000 in
theorem gX9_readStep_X9_kindOf : GoodIn wsX9_readStep (va_wsS RX9 64 yX9_kindOf wsX9_kindOf) := goodIn_app (goodIn_r _ [5, 6, 7] rfl (by decide +kernel)) ggX9_readStep_X9_kindOf
set_option maxRecDepth 20000 in
theorem ggX9_readStep_X7_wrong : GoodIn wsX9_readStep wsX7_wrong := goodIn_r _ [70, 71, 16, 72, 14, 130, 131, 132, 133, 134, 135, 136, 137, 138] rfl (by decide +kernel)
set_option maxRecDepth 20000 in
theorem gX9_readStep_X7_wrong : GoodIn wsX9_readStep (wsV RX9 68 RX7 yX7_wrong wsX7_wrong) := goodIn_app (goodIn_r _ [67, 68, 69, 12] rfl (by decide +kernel)) ggX9_readStep_X7_wrong
set_option maxRecDepth 20000 in
theorem ggX9_readStep_X7_step : GoodIn wsX9_readStep wsX7_step := goodIn_r _ [76, 71, 15, 16, 77, 17, 78, 79, 14, 80, 81, 82, 83, 130, 131, 132, 133, 134, 135, 136, 137, 138] rfl (by decide +kernel)
set_option maxRecDepth 20000 in
theorem gX9_readStep_X7_step : GoodIn wsX9_readStep (wsV RX9 72 RX7 yX7_step wsX7_step) := goodIn_app (goodIn_r _ [73, 74, 75, 12] rfl (by decide +kernel)) ggX9_readStep_X7_step
set_option maxRecDepth 20000 in
theorem ggX9_readStep_X7_takeNumber : GoodIn wsX9_readStep wsX7_takeNumber := goodIn_r _ [87, 14, 78, 88, 68, 69, 12, 70, 71, 16, 72, 89, 74, 75, 76, 15, 77, 17, 79, 80, 81, 82, 83, 130, 131, 132, 133, 134, 135, 136, 137, 138] rfl (by decide +kernel)
set_option maxRecDepth 20000 in
theorem gX9_readStep_X7_takeNumber : GoodIn wsX9_readStep (wsV RX9 75 RX7 yX7_takeNumber wsX7_takeNumber) := goodIn_app (goodIn_r _ [84, 85, 86, 12] rfl (by decide +kernel)) ggX9_readStep_X7_takeNumber
set_option maxRecDepth 20000 in
theorem ggX9_readStep_X7_takeSign : GoodIn wsX9_readStep wsX7_takeSign := goodIn_r _ [93, 94, 95, 96, 12, 97, 14, 17, 16, 89, 74, 75, 76, 71, 15, 77, 78, 79, 80, 81, 82, 83, 88, 68, 69, 70, 72, 130, 131, 132, 133, 134, 135, 136, 137, 138] rfl (by decide +kernel)
set_option maxRecDepth 20000 in
theorem gX9_readStep_X7_takeSign : GoodIn wsX9_readStep (wsV RX9 60 RX7 yX7_takeSign wsX7_takeSign) := goodIn_app (goodIn_r _ [90, 91, 92, 12] rfl (by decide +kernel)) ggX9_readStep_X7_takeSign
set_option maxRecDepth 20000 in
theorem ggX9_readStep_X9_readSteps : GoodIn wsX9_readStep wsX9_readSteps := goodIn_r _ [112, 113, 114, 115, 116, 7, 90, 91, 92, 12, 93, 94, 95, 96, 97, 14, 17, 16, 89, 74, 75, 76, 71, 15, 77, 78, 79, 80, 81, 82, 83, 88, 68, 69, 70, 72, 0, 1, 2, 3, 4, 5, 6, 8, 9, 10, 11, 13, 18, 19, 20, 21, 22, 23, 24, 25, 26, 27, 28, 29, 30, 31, 32, 33, 34, 35, 36, 37, 38, 39, 40, 41, 42, 43, 44, 45, 46, 47, 48, 49, 50, 51, 52, 53, 54, 55, 56, 57, 58, 59, 60, 61, 62, 63, 64, 65, 66, 67, 73, 84, 85, 86, 87, 98, 99, 100, 101, 102, 103, 104, 105, 106, 107, 108, 109, 110, 111, 117, 118, 119, 120, 121, 122, 123, 124, 125, 126, 127, 128, 129, 130, 131, 132, 133, 134, 135, 136, 137, 138, 139, 140, 141, 142, 143, 144, 145, 146, 147, 148, 149, 150, 151] rfl (by decide +kernel)
set_option maxRecDepth 20000 in
theorem gX9_readStep_X9_readSteps : GoodIn wsX9_readStep (wsV RX9 45 RX9 yX9_readSteps wsX9_readSteps) := goodIn_app (goodIn_r _ [98, 99, 100, 7] rfl (by decide +kernel)) ggX9_readStep_X9_readSteps
set_option maxRecDepth 20000 in
theorem ggX9_readStep_X9_readPlace : GoodIn wsX9_readStep wsX9_readPlace := goodIn_r _ [104, 2, 105, 106, 107, 108, 109, 110, 111, 3, 84, 85, 86, 12, 87, 14, 78, 88, 68, 69, 70, 71, 16, 72, 89, 74, 75, 76, 15, 77, 17, 79, 80, 81, 82, 83, 117, 118, 119, 120, 121, 122, 123, 124, 125, 126, 127, 128, 129, 139, 140, 141, 142, 143, 144, 145, 146, 147, 148, 149, 150, 151, 130, 131, 132, 133, 134, 135, 136, 137, 138] rfl (by decide +kernel)
set_option maxRecDepth 20000 in
theorem gX9_readStep_X9_readPlace : GoodIn wsX9_readStep (wsV RX9 79 RX9 yX9_readPlace wsX9_readPlace) := goodIn_app (goodIn_r _ [101, 102, 103, 7] rfl (by decide +kernel)) ggX9_readStep_X9_readPlace
set_option maxRecDepth 20000 in
theorem ggX9_readPlace_X7_takeNumber : GoodIn wsX9_readPlace wsX7_takeNumber := goodIn_r _ [14, 15, 16, 17, 18, 19, 13, 20, 21, 22, 23, 24, 25, 26, 27, 28, 29, 30, 31, 32, 33, 34, 35, 62, 63, 64, 65, 66, 67, 68, 69, 70] rfl (by decide +kernel)
set_option maxRecDepth 20000 in
theorem gX9_readPlace_X7_takeNumber : GoodIn wsX9_readPlace (wsV RX9 75 RX7 yX7_takeNumber wsX7_takeNumber) := goodIn_app (goodIn_r _ [10, 11, 12, 13] rfl (by decide +kernel)) ggX9_readPlace_X7_takeNumber
set_option maxRecDepth 20000 in
theorem ggX9_kindOf_X7_isWord : GoodIn wsX9_kindOf wsX7_isWord := goodIn_r _ [5, 6, 7, 8, 9, 10, 11, 12, 13, 14, 15, 16, 17, 18, 19, 20, 21, 22, 23, 24, 25, 26, 27, 28, 29, 30, 31, 32, 33, 34, 35, 36, 37, 38, 39, 40, 41, 42, 43, 44, 45, 46, 47, 48, 49, 50, 51, 52, 53, 54, 55, 56, 57, 58, 59, 60, 61, 62, 63, 64, 65, 66, 67] rfl (by decide +kernel)
set_option maxRecDepth 20000 in
theorem gX9_kindOf_X7_isWord : GoodIn wsX9_kindOf (wsV RX9 95 RX7 yX7_isWord wsX7_isWord) := goodIn_app (goodIn_r _ [1, 2, 3, 4] rfl (by decide +kernel)) ggX9_kindOf_X7_isWord
set_option maxRecDepth 20000 in
theorem ggX9_doAll_X9_doSteps : GoodIn wsX9_doAll wsX9_doSteps := goodIn_r _ [9, 1, 10, 2, 3, 11, 12, 13, 14, 8, 15, 16, 17, 18, 19, 20, 21, 22, 23, 24, 25, 26, 27, 28, 29, 30, 31, 32, 33, 34, 35, 36, 37, 38, 39, 40, 41, 42, 43, 44, 45, 46, 47, 48, 49, 50, 51, 52, 53, 54, 55, 56, 57, 58, 59, 60, 61, 62, 63, 64, 65, 66, 67, 68, 69, 70, 71, 72, 73, 74, 75, 76, 77, 78, 79, 80, 81, 82, 83, 84, 85, 86, 87, 88, 89, 90, 91, 92, 93, 94, 95, 96, 97, 98, 99, 100, 101, 102, 103, 104, 105, 106, 107, 108, 109, 110, 111, 112, 113, 114, 115, 116, 117, 118, 119, 120, 121, 122, 123, 124, 125, 126, 127, 128, 129, 130, 131, 132, 133, 134, 135, 136, 137, 138, 5, 6, 7, 139, 140, 141, 142, 143, 144, 145, 146, 147, 148, 149, 150, 151, 152, 153, 154, 155, 156, 157, 158, 159, 160, 161, 162, 163, 164, 165, 166, 167, 168, 169, 170, 171, 172, 173, 174, 175, 176, 177, 178, 179, 180, 181] rfl (by decide +kernel)
set_option maxRecDepth 20000 in
theorem gX9_doAll_X9_doSteps : GoodIn wsX9_doAll (wsV RX9 120 RX9 yX9_doSteps wsX9_doSteps) := goodIn_app (goodIn_r _ [5, 6, 7, 8] rfl (by decide +kernel)) ggX9_doAll_X9_doSteps
set_option maxRecDepth 20000 in
theorem ggX9_doSteps_X9_doAgain : GoodIn wsX9_doSteps wsX9_doAgain := goodIn_r _ [133, 17, 1, 5, 134, 135, 136, 9, 0, 2, 3, 4, 6, 7, 8, 10, 11, 12, 13, 14, 15, 16, 18, 19, 20, 21, 22, 23, 24, 25, 26, 27, 28, 29, 30, 31, 32, 33, 34, 35, 36, 37, 38, 39, 40, 41, 42, 43, 44, 45, 46, 47, 48, 49, 50, 51, 52, 53, 54, 55, 56, 57, 58, 59, 60, 61, 62, 63, 64, 65, 66, 67, 68, 69, 70, 71, 72, 73, 74, 75, 76, 77, 78, 79, 80, 81, 82, 83, 84, 85, 86, 87, 88, 89, 90, 91, 92, 93, 94, 95, 96, 97, 98, 99, 100, 101, 102, 103, 104, 105, 106, 107, 108, 109, 110, 111, 112, 113, 114, 115, 116, 117, 118, 119, 120, 121, 122, 123, 124, 125, 126, 127, 128, 129, 130, 131, 132, 137, 138, 139, 140, 141, 142, 143, 144, 145, 146, 147, 148, 149, 150, 151, 152, 153, 154, 155, 156, 157, 158, 159, 160, 161, 162, 163, 164, 165, 166, 167, 168, 169, 170, 171, 172, 173, 174, 175, 176, 177, 178, 179] rfl (by decide +kernel)
set_option maxRecDepth 20000 in
theorem gX9_doSteps_X9_doAgain : GoodIn wsX9_doSteps (wsV RX9 124 RX9 yX9_doAgain wsX9_doAgain) := goodIn_app (goodIn_r _ [6, 7, 8, 9] rfl (by decide +kernel)) ggX9_doSteps_X9_doAgain
set_option maxRecDepth 20000 in
theorem ggX9_doSteps_X9_isDone : GoodIn wsX9_doSteps wsX9_isDone := goodIn_r _ [13, 14, 2, 15, 16, 17, 18, 19, 20, 21, 22, 23, 24, 25, 26, 27, 28, 29, 30, 31, 32, 33, 34, 35, 36, 37, 38, 39, 40, 41, 42, 43, 44, 45, 46, 47, 48, 49, 50, 51, 52, 53, 54, 55, 56, 57, 58, 59, 60, 61, 62, 63, 64, 65, 66, 67, 68, 69, 70, 71, 72, 73, 74, 75, 76, 77, 78, 79, 80, 81, 82, 83, 84, 85, 86, 87, 88, 89, 90, 91, 92, 93, 94, 95, 96, 97, 98, 99, 100, 101, 102, 103, 104, 105, 106, 107, 108, 109, 110, 111, 112, 113, 114, 115, 116, 117, 118, 119, 120, 121, 122, 123, 124, 125, 126, 127, 128, 129, 130, 131, 132, 137, 138, 139, 140, 141, 142, 143, 144, 145, 146, 147, 148, 149, 150, 151, 152, 153, 154, 155, 156, 157, 158, 159, 160, 161, 162, 163, 164, 165, 166, 167, 168, 169, 170, 171, 172, 173, 174, 175, 176, 177, 178, 179] rfl (by decide +kernel)
set_option maxRecDepth 20000 in
theorem gX9_doSteps_X9_isDone : GoodIn wsX9_doSteps (wsV RX9 128 RX9 yX9_isDone wsX9_isDone) := goodIn_app (goodIn_r _ [10, 11, 12, 9] rfl (by decide +kernel)) ggX9_doSteps_X9_isDone
set_option maxRecDepth 20000 in
theorem ggX9_doAgain_X9_doSteps : GoodIn wsX9_doAgain wsX9_doSteps := goodIn_r _ [8, 2, 9, 10, 11, 3, 12, 13, 14, 7, 15, 16, 17, 18, 19, 20, 21, 1, 22, 23, 24, 25, 26, 27, 28, 29, 30, 31, 32, 33, 34, 35, 36, 37, 38, 39, 40, 41, 42, 43, 44, 45, 46, 47, 48, 49, 50, 51, 52, 53, 54, 55, 56, 57, 58, 59, 60, 61, 62, 63, 64, 65, 66, 67, 68, 69, 70, 71, 72, 73, 74, 75, 76, 77, 78, 79, 80, 81, 82, 83, 84, 85, 86, 87, 88, 89, 90, 91, 92, 93, 94, 95, 96, 97, 98, 99, 100, 101, 102, 103, 104, 105, 106, 107, 108, 109, 110, 111, 112, 113, 114, 115, 116, 117, 118, 119, 120, 121, 122, 123, 124, 125, 126, 127, 128, 129, 130, 131, 132, 133, 134, 135, 136, 0, 4, 5, 6, 137, 138, 139, 140, 141, 142, 143, 144, 145, 146, 147, 148, 149, 150, 151, 152, 153, 154, 155, 156, 157, 158, 159, 160, 161, 162, 163, 164, 165, 166, 167, 168, 169, 170, 171, 172, 173, 174, 175, 176, 177, 178, 179] rfl (by decide +kernel)
set_option maxRecDepth 20000 in
theorem gX9_doAgain_X9_doSteps : GoodIn wsX9_doAgain (wsV RX9 120 RX9 yX9_doSteps wsX9_doSteps) := goodIn_app (goodIn_r _ [4, 5, 6, 7] rfl (by decide +kernel)) ggX9_doAgain_X9_doSteps
set_option maxRecDepth 20000 in
theorem ggX9_isDone_X2_wipe : GoodIn wsX9_isDone wsX2_wipe := goodIn_r _ [14, 15, 16, 17, 18, 19, 20, 21, 22, 13, 23, 24, 25, 26, 27, 28, 29, 30, 147, 148, 149, 150, 151, 152, 153, 154] rfl (by decide +kernel)
set_option maxRecDepth 20000 in
theorem gX9_isDone_X2_wipe : GoodIn wsX9_isDone (wsV RX9 135 RX2 yX2_wipe wsX2_wipe) := goodIn_app (goodIn_r _ [10, 11, 12, 13] rfl (by decide +kernel)) ggX9_isDone_X2_wipe
set_option maxRecDepth 20000 in
theorem ggX9_isDone_X1_circleAt : GoodIn wsX9_isDone wsX1_circleAt := goodIn_r _ [34, 35, 36, 18, 37] rfl (by decide +kernel)
set_option maxRecDepth 20000 in
theorem gX9_isDone_X1_circleAt : GoodIn wsX9_isDone (va_wsS RX9 140 yX1_circleAt wsX1_circleAt) := goodIn_app (goodIn_r _ [31, 32, 33] rfl (by decide +kernel)) ggX9_isDone_X1_circleAt
set_option maxRecDepth 20000 in
theorem ggX9_isDone_X8_passDay : GoodIn wsX9_isDone wsX8_passDay := goodIn_r _ [42, 43, 44, 45, 46, 47, 48, 41, 49, 50, 51, 52, 53, 54, 55, 56, 57, 58, 59, 60, 61, 62, 63, 64, 65, 66, 67, 13, 68, 15, 30, 69, 70, 71, 72, 16, 17, 18, 19, 73, 74, 75, 76, 77, 78, 79, 80, 81, 82, 83, 84, 85, 86, 87, 88, 89, 90, 91, 92, 93, 94, 95, 96, 97, 98, 99, 100, 101, 102, 103, 104, 105, 106, 107, 147, 148, 149, 150, 151, 152, 153, 154, 134, 135, 136, 137, 138, 139, 140, 141, 142, 143, 144, 145, 146, 155, 156, 157, 158, 159, 160, 161, 162, 163] rfl (by decide +kernel)
set_option maxRecDepth 20000 in
theorem gX9_isDone_X8_passDay : GoodIn wsX9_isDone (wsV RX9 146 RX8 yX8_passDay wsX8_passDay) := goodIn_app (goodIn_r _ [38, 39, 40, 41] rfl (by decide +kernel)) ggX9_isDone_X8_passDay
set_option maxRecDepth 20000 in
theorem ggX9_isDone_X2_rinse : GoodIn wsX9_isDone wsX2_rinse := goodIn_r _ [111, 25, 24, 112, 113, 114, 115, 147, 148, 149, 150, 151, 152, 153, 154] rfl (by decide +kernel)
set_option maxRecDepth 20000 in
theorem gX9_isDone_X2_rinse : GoodIn wsX9_isDone (wsV RX9 152 RX2 yX2_rinse wsX2_rinse) := goodIn_app (goodIn_r _ [108, 109, 110, 13] rfl (by decide +kernel)) ggX9_isDone_X2_rinse
set_option maxRecDepth 20000 in
theorem ggX9_isDone_X2_smash : GoodIn wsX9_isDone wsX2_smash := goodIn_r _ [119, 84, 15, 120, 81, 82, 13, 83, 147, 148, 149, 150, 151, 152, 153, 154] rfl (by decide +kernel)
set_option maxRecDepth 20000 in
theorem gX9_isDone_X2_smash : GoodIn wsX9_isDone (wsV RX9 154 RX2 yX2_smash wsX2_smash) := goodIn_app (goodIn_r _ [116, 117, 118, 13] rfl (by decide +kernel)) ggX9_isDone_X2_smash
set_option maxRecDepth 20000 in
theorem ggJ0_length_8abf5_J0_coder_7d493 : GoodIn wsJ0_length_8abf5 wsJ0_coder_7d493 := goodIn_r _ [6, 7, 8] rfl (by decide +kernel)
set_option maxRecDepth 20000 in
theorem gJ0_length_8abf5_J0_coder_7d493 : GoodIn wsJ0_length_8abf5 (wsV RJ0 335 RJ0 yJ0_coder_7d493 wsJ0_coder_7d493) := goodIn_app (goodIn_r _ [2, 3, 4, 5] rfl (by decide +kernel)) ggJ0_length_8abf5_J0_coder_7d493
set_option maxRecDepth 20000 in
theorem ggJ0_charAt_5068e_J0_isLatin1_aae02 : GoodIn wsJ0_charAt_5068e wsJ0_isLatin1_aae02 := goodIn_r _ [6, 7, 8] rfl (by decide +kernel)
set_option maxRecDepth 20000 in
theorem gJ0_charAt_5068e_J0_isLatin1_aae02 : GoodIn wsJ0_charAt_5068e (wsV RJ0 492 RJ0 yJ0_isLatin1_aae02 wsJ0_isLatin1_aae02) := goodIn_app (goodIn_r _ [2, 3, 4, 5] rfl (by decide +kernel)) ggJ0_charAt_5068e_J0_isLatin1_aae02
set_option maxRecDepth 20000 in
theorem ggJ0_charAt_5068e_J1_charAt_3b067 : GoodIn wsJ0_charAt_5068e wsJ1_charAt_3b067 := goodIn_r _ [12, 13, 14, 5, 15, 16, 17, 18, 19, 20] rfl (by decide +kernel)
set_option maxRecDepth 20000 in
theorem gJ0_charAt_5068e_J1_charAt_3b067 : GoodIn wsJ0_charAt_5068e (va_wsS RJ0 495 yJ1_charAt_3b067 wsJ1_charAt_3b067) := goodIn_app (goodIn_r _ [9, 10, 11] rfl (by decide +kernel)) ggJ0_charAt_5068e_J1_charAt_3b067
set_option maxRecDepth 20000 in
theorem ggJ0_charAt_5068e_J2_charAt_3b067 : GoodIn wsJ0_charAt_5068e wsJ2_charAt_3b067 := goodIn_r _ [24, 25, 26, 23, 27, 28, 29, 30, 31, 14, 5, 15, 16, 17, 18, 19, 20, 32, 33, 34, 35, 36, 37] rfl (by decide +kernel)
set_option maxRecDepth 20000 in
theorem gJ0_charAt_5068e_J2_charAt_3b067 : GoodIn wsJ0_charAt_5068e (va_wsS RJ0 498 yJ2_charAt_3b067 wsJ2_charAt_3b067) := goodIn_app (goodIn_r _ [21, 22, 23] rfl (by decide +kernel)) ggJ0_charAt_5068e_J2_charAt_3b067
set_option maxRecDepth 20000 in
theorem ggJ0_checkIndex_df160_J3_checkIndex_8e157 : GoodIn wsJ0_checkIndex_df160 wsJ3_checkIndex_8e157 := goodIn_r _ [5] rfl (by decide +kernel)
set_option maxRecDepth 20000 in
theorem gJ0_checkIndex_df160_J3_checkIndex_8e157 : GoodIn wsJ0_checkIndex_df160 (va_wsS RJ0 1059 yJ3_checkIndex_8e157 wsJ3_checkIndex_8e157) := goodIn_app (goodIn_r _ [2, 3, 4] rfl (by decide +kernel)) ggJ0_checkIndex_df160_J3_checkIndex_8e157
set_option maxRecDepth 20000 in
theorem ggJ1_charAt_3b067_J0_checkIndex_df160 : GoodIn wsJ1_charAt_3b067 wsJ0_checkIndex_df160 := goodIn_r _ [4, 5, 6, 7, 8, 9] rfl (by decide +kernel)
set_option maxRecDepth 20000 in
theorem gJ1_charAt_3b067_J0_checkIndex_df160 : GoodIn wsJ1_charAt_3b067 (va_wsS RJ1 9 yJ0_checkIndex_df160 wsJ0_checkIndex_df160) := goodIn_app (goodIn_r _ [1, 2, 3] rfl (by decide +kernel)) ggJ1_charAt_3b067_J0_checkIndex_df160
set_option maxRecDepth 20000 in
theorem ggJ2_getChar_3b067_J2_length_9d52b : GoodIn wsJ2_getChar_3b067 wsJ2_length_9d52b := goodIn_r _ [7] rfl (by decide +kernel)
set_option maxRecDepth 20000 in
theorem gJ2_getChar_3b067_J2_length_9d52b : GoodIn wsJ2_getChar_3b067 (va_wsS RJ2 48 yJ2_length_9d52b wsJ2_length_9d52b) := goodIn_app (goodIn_r _ [4, 5, 6] rfl (by decide +kernel)) ggJ2_getChar_3b067_J2_length_9d52b
set_option maxRecDepth 20000 in
theorem ggJ2_charAt_3b067_J2_checkIndex_2214a : GoodIn wsJ2_charAt_3b067 wsJ2_checkIndex_2214a := goodIn_r _ [4, 5, 6, 3, 7, 8, 9, 10, 11, 12, 13, 14, 15, 16] rfl (by decide +kernel)
set_option maxRecDepth 20000 in
theorem gJ2_charAt_3b067_J2_checkIndex_2214a : GoodIn wsJ2_charAt_3b067 (va_wsS RJ2 67 yJ2_checkIndex_2214a wsJ2_checkIndex_2214a) := goodIn_app (goodIn_r _ [1, 2, 3] rfl (by decide +kernel)) ggJ2_charAt_3b067_J2_checkIndex_2214a
set_option maxRecDepth 20000 in
theorem ggJ2_charAt_3b067_J2_getChar_3b067 : GoodIn wsJ2_charAt_3b067 wsJ2_getChar_3b067 := goodIn_r _ [19, 20, 21, 22, 5, 6, 3, 7] rfl (by decide +kernel)
set_option maxRecDepth 20000 in
theorem gJ2_charAt_3b067_J2_getChar_3b067 : GoodIn wsJ2_charAt_3b067 (va_wsS RJ2 71 yJ2_getChar_3b067 wsJ2_getChar_3b067) := goodIn_app (goodIn_r _ [17, 18, 3] rfl (by decide +kernel)) ggJ2_charAt_3b067_J2_getChar_3b067
set_option maxRecDepth 20000 in
theorem ggJ2_checkIndex_2214a_J2_length_9d52b : GoodIn wsJ2_checkIndex_2214a wsJ2_length_9d52b := goodIn_r _ [4] rfl (by decide +kernel)
set_option maxRecDepth 20000 in
theorem gJ2_checkIndex_2214a_J2_length_9d52b : GoodIn wsJ2_checkIndex_2214a (va_wsS RJ2 48 yJ2_length_9d52b wsJ2_length_9d52b) := goodIn_app (goodIn_r _ [1, 2, 3] rfl (by decide +kernel)) ggJ2_checkIndex_2214a_J2_length_9d52b
set_option maxRecDepth 20000 in
theorem ggJ2_checkIndex_2214a_J0_checkIndex_df160 : GoodIn wsJ2_checkIndex_2214a wsJ0_checkIndex_df160 := goodIn_r _ [8, 9, 10, 11, 12, 13] rfl (by decide +kernel)
set_option maxRecDepth 20000 in
theorem gJ2_checkIndex_2214a_J0_checkIndex_df160 : GoodIn wsJ2_checkIndex_2214a (va_wsS RJ2 414 yJ0_checkIndex_df160 wsJ0_checkIndex_df160) := goodIn_app (goodIn_r _ [5, 6, 7] rfl (by decide +kernel)) ggJ2_checkIndex_2214a_J0_checkIndex_df160
